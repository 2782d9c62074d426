def wp_X0_left (σ : io_M) (post : Int32 → io_M → Prop) : Prop := post ((σ 93 2) - (σ 93 3)) σ
set_option maxHeartbeats 4000000 in
set_option maxRecDepth 100000 in
theorem io_c_X0_left (l : Launch) (D : va_G) (ca : Nat → ClassId) (ad : Nat → Nat) (A : Nat → Prop) (σ : io_M) (post : Int32 → io_M → Prop) (hw : wp_X0_left σ post) : Met l yX0_left (.code yX0_left cX0_left 1 (some .int) :: io_tb) (io_rm 0) (va_Pc [.ref (ad 93)] (io_W D ca ad A σ)) (va_Qi post (io_W D ca ad A) A) 0 0 A := by
  refine Met.ofW (cc := cX0_left) (maxL := 1) (ret := (some .int)) (by decide) rfl ?_
  intro p e s m args below meth c s₁ Bd hml hv
  obtain ⟨rfl, hW0⟩ := hv
  have Z := io_Z.start hW0
  have B : CallFix p m c cX0_left 1 s _ io_tb RX0 := ⟨Bd.exec, Bd.bytes, hml, findClass_of_methodNamed Bd.named, fun w hw => atoms_spec (ws := (.code yX0_left cX0_left 1 (some .int) :: io_tb)) Bd.pre w (List.mem_cons_of_mem _ hw)⟩
  have hr := Bd.returns
  have hlk := Bd.notSynchronized
  have hl := lv_entry ([.ref (ad 93)]) (n := 1) (Nat.le_of_ble_eq_true rfl)
  rw [lg_entry_eq]
  generalize (lg_sl ([.ref (ad 93)]) ++ List.replicate (1 - (lg_sl ([.ref (ad 93)])).length) Slot.unset).toArray = ls at hl ⊢
  have hl : lv_has ls 1 [(0, .ref (ad 93))] := hl
  show W p l e (io_rm 0) s m _ below meth c s.heap [] 0 0 _ (F0 m 0 ls [])
  unfold wp_X0_left at hw
  refine lv_aload_n B.1 B.2.1 dX0_left_0 rfl (lv_at hl 0 rfl) ?_
  refine io_g_0_2 B Z dX0_left_1 ?_
  refine lv_aload_n B.1 B.2.1 dX0_left_4 rfl (lv_at hl 0 rfl) ?_
  refine io_g_0_3 B Z dX0_left_5 ?_
  refine lv_isub B.1 B.2.1 dX0_left_8 ?_
  exact io_ret_i B Z hr hlk hw dX0_left_9
def wp_X0_supply (σ : io_M) (p1 : Int32) (post : Int32 → io_M → Prop) : Prop := (((σ 93 2) < 100 → (vp_in (σ 93 2) 100 ∧ ∀ s3, s3 = io_up σ 94 ((σ 93 2)).toNatClampNeg (p1) → (∀ s5, s5 = io_up s3 93 2 ((s3 93 2) + 1) → post 1 s5))) ∧ (¬ ((σ 93 2) < 100) → post 0 σ))
set_option maxHeartbeats 4000000 in
set_option maxRecDepth 100000 in
theorem io_c_X0_supply (l : Launch) (D : va_G) (ca : Nat → ClassId) (ad : Nat → Nat) (A : Nat → Prop) (σ : io_M) (p1 : Int32) (post : Int32 → io_M → Prop) (hw : wp_X0_supply σ p1 post) : Met l yX0_supply (.code yX0_supply cX0_supply 2 (some .boolean) :: io_tb) (io_rm 0) (va_Pc [.ref (ad 93), .int p1] (io_W D ca ad A σ)) (va_Qi (fun r u => io_bl r ∧ post r u) (io_W D ca ad A) A) 0 0 A := by
  refine Met.ofW (cc := cX0_supply) (maxL := 2) (ret := (some .boolean)) (by decide) rfl ?_
  intro p e s m args below meth c s₁ Bd hml hv
  obtain ⟨rfl, hW0⟩ := hv
  have Z := io_Z.start hW0
  have B : CallFix p m c cX0_supply 2 s _ io_tb RX0 := ⟨Bd.exec, Bd.bytes, hml, findClass_of_methodNamed Bd.named, fun w hw => atoms_spec (ws := (.code yX0_supply cX0_supply 2 (some .boolean) :: io_tb)) Bd.pre w (List.mem_cons_of_mem _ hw)⟩
  have hr := Bd.returns
  have hlk := Bd.notSynchronized
  have hl := lv_entry ([.ref (ad 93), .int p1]) (n := 2) (Nat.le_of_ble_eq_true rfl)
  rw [lg_entry_eq]
  generalize (lg_sl ([.ref (ad 93), .int p1]) ++ List.replicate (2 - (lg_sl ([.ref (ad 93), .int p1])).length) Slot.unset).toArray = ls at hl ⊢
  have hl : lv_has ls 2 [(0, .ref (ad 93)), (1, .int p1)] := hl
  show W p l e (io_rm 0) s m _ below meth c s.heap [] 0 0 _ (F0 m 0 ls [])
  unfold wp_X0_supply at hw
  refine lv_aload_n B.1 B.2.1 dX0_supply_0 rfl (lv_at hl 0 rfl) ?_
  refine io_g_0_2 B Z dX0_supply_1 ?_
  refine lv_bipush (v := 100) B.1 B.2.1 dX0_supply_4 (by decide) ?_
  refine lv_icmp_lt (tgt := 11) B.1 B.2.1 dX0_supply_6 (by decide) (fun k2 => ?_) (fun k2 => ?_)
  · have hw := hw.1 k2
    refine lv_aload_n B.1 B.2.1 dX0_supply_11 rfl (lv_at hl 0 rfl) ?_
    refine io_g_0_0 B Z dX0_supply_12 ?_
    refine lv_aload_n B.1 B.2.1 dX0_supply_15 rfl (lv_at hl 0 rfl) ?_
    refine io_g_0_2 B Z dX0_supply_16 ?_
    refine lv_iload_n B.1 B.2.1 dX0_supply_19 rfl (lv_at hl 1 rfl) ?_
    refine io_iast B Z 94 (by decide) io_e_94 hw.1 dX0_supply_20 (fun s3 H locs e4 Z => ?_)
    have hw := hw.2 s3 e4
    refine lv_aload_n B.1 B.2.1 dX0_supply_21 rfl (lv_at hl 0 rfl) ?_
    refine lv_dup B.1 B.2.1 dX0_supply_22 rfl ?_
    refine io_g_0_2 B Z dX0_supply_23 ?_
    refine lv_iconst (v := 1) B.1 B.2.1 dX0_supply_26 (by decide) ?_
    refine lv_iadd B.1 B.2.1 dX0_supply_27 ?_
    refine io_p_0_2 B Z dX0_supply_28 (fun s5 H locs e6 Z => ?_)
    have hw := hw s5 e6
    refine lv_iconst (v := 1) B.1 B.2.1 dX0_supply_31 (by decide) ?_
    exact io_ret_z B Z hr hlk (Or.inr rfl) hw dX0_supply_32
  · have hw := hw.2 k2
    refine lv_iconst (v := 0) B.1 B.2.1 dX0_supply_9 (by decide) ?_
    exact io_ret_z B Z hr hlk (Or.inl rfl) hw dX0_supply_10
def wp_X7_add (σ : io_M) (p1 : Int32) (p2 : Int32) (p3 : Int32) (p4 : Int32) (post : Int32 → io_M → Prop) : Prop := (((σ 96 4) < 60 → (vp_in (σ 96 4) 60 ∧ ∀ s3, s3 = io_up σ 97 ((σ 96 4)).toNatClampNeg (p1) → (vp_in (s3 96 4) 60 ∧ ∀ s5, s5 = io_up s3 98 ((s3 96 4)).toNatClampNeg (p2) → (vp_in (s5 96 4) 60 ∧ ∀ s7, s7 = io_up s5 99 ((s5 96 4)).toNatClampNeg (p3) → (vp_in (s7 96 4) 60 ∧ ∀ s9, s9 = io_up s7 100 ((s7 96 4)).toNatClampNeg (p4) → (∀ s11, s11 = io_up s9 96 4 ((s9 96 4) + 1) → post ((s11 96 4) - 1) s11)))))) ∧ (¬ ((σ 96 4) < 60) → post (-3) σ))
set_option maxHeartbeats 4000000 in
set_option maxRecDepth 100000 in
theorem io_c_X7_add (l : Launch) (D : va_G) (ca : Nat → ClassId) (ad : Nat → Nat) (A : Nat → Prop) (σ : io_M) (p1 : Int32) (p2 : Int32) (p3 : Int32) (p4 : Int32) (post : Int32 → io_M → Prop) (hw : wp_X7_add σ p1 p2 p3 p4 post) : Met l yX7_add (.code yX7_add cX7_add 5 (some .int) :: io_tb) (io_rm 0) (va_Pc [.ref (ad 96), .int p1, .int p2, .int p3, .int p4] (io_W D ca ad A σ)) (va_Qi post (io_W D ca ad A) A) 0 0 A := by
  refine Met.ofW (cc := cX7_add) (maxL := 5) (ret := (some .int)) (by decide) rfl ?_
  intro p e s m args below meth c s₁ Bd hml hv
  obtain ⟨rfl, hW0⟩ := hv
  have Z := io_Z.start hW0
  have B : CallFix p m c cX7_add 5 s _ io_tb RX7 := ⟨Bd.exec, Bd.bytes, hml, findClass_of_methodNamed Bd.named, fun w hw => atoms_spec (ws := (.code yX7_add cX7_add 5 (some .int) :: io_tb)) Bd.pre w (List.mem_cons_of_mem _ hw)⟩
  have hr := Bd.returns
  have hlk := Bd.notSynchronized
  have hl := lv_entry ([.ref (ad 96), .int p1, .int p2, .int p3, .int p4]) (n := 5) (Nat.le_of_ble_eq_true rfl)
  rw [lg_entry_eq]
  generalize (lg_sl ([.ref (ad 96), .int p1, .int p2, .int p3, .int p4]) ++ List.replicate (5 - (lg_sl ([.ref (ad 96), .int p1, .int p2, .int p3, .int p4])).length) Slot.unset).toArray = ls at hl ⊢
  have hl : lv_has ls 5 [(0, .ref (ad 96)), (1, .int p1), (2, .int p2), (3, .int p3), (4, .int p4)] := hl
  show W p l e (io_rm 0) s m _ below meth c s.heap [] 0 0 _ (F0 m 0 ls [])
  unfold wp_X7_add at hw
  refine lv_aload_n B.1 B.2.1 dX7_add_0 rfl (lv_at hl 0 rfl) ?_
  refine io_g_7_4 B Z dX7_add_1 ?_
  refine lv_bipush (v := 60) B.1 B.2.1 dX7_add_4 (by decide) ?_
  refine lv_icmp_lt (tgt := 12) B.1 B.2.1 dX7_add_6 (by decide) (fun k2 => ?_) (fun k2 => ?_)
  · have hw := hw.1 k2
    refine lv_aload_n B.1 B.2.1 dX7_add_12 rfl (lv_at hl 0 rfl) ?_
    refine io_g_7_0 B Z dX7_add_13 ?_
    refine lv_aload_n B.1 B.2.1 dX7_add_16 rfl (lv_at hl 0 rfl) ?_
    refine io_g_7_4 B Z dX7_add_17 ?_
    refine lv_iload_n B.1 B.2.1 dX7_add_20 rfl (lv_at hl 1 rfl) ?_
    refine io_iast B Z 97 (by decide) io_e_97 hw.1 dX7_add_21 (fun s3 H locs e4 Z => ?_)
    have hw := hw.2 s3 e4
    refine lv_aload_n B.1 B.2.1 dX7_add_22 rfl (lv_at hl 0 rfl) ?_
    refine io_g_7_1 B Z dX7_add_23 ?_
    refine lv_aload_n B.1 B.2.1 dX7_add_26 rfl (lv_at hl 0 rfl) ?_
    refine io_g_7_4 B Z dX7_add_27 ?_
    refine lv_iload_n B.1 B.2.1 dX7_add_30 rfl (lv_at hl 2 rfl) ?_
    refine io_iast B Z 98 (by decide) io_e_98 hw.1 dX7_add_31 (fun s5 H locs e6 Z => ?_)
    have hw := hw.2 s5 e6
    refine lv_aload_n B.1 B.2.1 dX7_add_32 rfl (lv_at hl 0 rfl) ?_
    refine io_g_7_2 B Z dX7_add_33 ?_
    refine lv_aload_n B.1 B.2.1 dX7_add_36 rfl (lv_at hl 0 rfl) ?_
    refine io_g_7_4 B Z dX7_add_37 ?_
    refine lv_iload_n B.1 B.2.1 dX7_add_40 rfl (lv_at hl 3 rfl) ?_
    refine io_iast B Z 99 (by decide) io_e_99 hw.1 dX7_add_41 (fun s7 H locs e8 Z => ?_)
    have hw := hw.2 s7 e8
    refine lv_aload_n B.1 B.2.1 dX7_add_42 rfl (lv_at hl 0 rfl) ?_
    refine io_g_7_3 B Z dX7_add_43 ?_
    refine lv_aload_n B.1 B.2.1 dX7_add_46 rfl (lv_at hl 0 rfl) ?_
    refine io_g_7_4 B Z dX7_add_47 ?_
    refine lv_iload B.1 B.2.1 dX7_add_50 (lv_at hl 4 rfl) ?_
    refine io_iast B Z 100 (by decide) io_e_100 hw.1 dX7_add_52 (fun s9 H locs e10 Z => ?_)
    have hw := hw.2 s9 e10
    refine lv_aload_n B.1 B.2.1 dX7_add_53 rfl (lv_at hl 0 rfl) ?_
    refine lv_dup B.1 B.2.1 dX7_add_54 rfl ?_
    refine io_g_7_4 B Z dX7_add_55 ?_
    refine lv_iconst (v := 1) B.1 B.2.1 dX7_add_58 (by decide) ?_
    refine lv_iadd B.1 B.2.1 dX7_add_59 ?_
    refine io_p_7_4 B Z dX7_add_60 (fun s11 H locs e12 Z => ?_)
    have hw := hw s11 e12
    refine lv_aload_n B.1 B.2.1 dX7_add_63 rfl (lv_at hl 0 rfl) ?_
    refine io_g_7_4 B Z dX7_add_64 ?_
    refine lv_iconst (v := 1) B.1 B.2.1 dX7_add_67 (by decide) ?_
    refine lv_isub B.1 B.2.1 dX7_add_68 ?_
    exact io_ret_i B Z hr hlk hw dX7_add_69
  · have hw := hw.2 k2
    refine lv_bipush (v := (-3)) B.1 B.2.1 dX7_add_9 (by decide) ?_
    exact io_ret_i B Z hr hlk hw dX7_add_11
def wp_X7_fits (σ : io_M) (p1 : Int32) (p2 : Int32) (post : Int32 → io_M → Prop) : Prop := ((p2 = (-1) → post 1 σ) ∧ (¬ (p2 = (-1)) → ((p2 = 0 → (wp_X9_within σ p1 (σ 96 4) (fun r8 s9 => ((r8 = 0 → post 0 s9) ∧ (¬ (r8 = 0) → post 1 s9))))) ∧ (¬ (p2 = 0) → (wp_X9_within σ p1 p2 (fun r4 s5 => ((r4 = 0 → post 0 s5) ∧ (¬ (r4 = 0) → post 1 s5))))))))
set_option maxHeartbeats 4000000 in
set_option maxRecDepth 100000 in
theorem io_c_X7_fits (l : Launch) (D : va_G) (ca : Nat → ClassId) (ad : Nat → Nat) (A : Nat → Prop) (σ : io_M) (p1 : Int32) (p2 : Int32) (post : Int32 → io_M → Prop) (hw : wp_X7_fits σ p1 p2 post) : Met l yX7_fits (.code yX7_fits cX7_fits 3 (some .boolean) :: io_tb) (io_rm 1) (va_Pc [.ref (ad 96), .int p1, .int p2] (io_W D ca ad A σ)) (va_Qi (fun r u => io_bl r ∧ post r u) (io_W D ca ad A) A) 0 0 A := by
  refine Met.ofW (cc := cX7_fits) (maxL := 3) (ret := (some .boolean)) (by decide) rfl ?_
  intro p e s m args below meth c s₁ Bd hml hv
  obtain ⟨rfl, hW0⟩ := hv
  have Z := io_Z.start hW0
  have B : CallFix p m c cX7_fits 3 s _ io_tb RX7 := ⟨Bd.exec, Bd.bytes, hml, findClass_of_methodNamed Bd.named, fun w hw => atoms_spec (ws := (.code yX7_fits cX7_fits 3 (some .boolean) :: io_tb)) Bd.pre w (List.mem_cons_of_mem _ hw)⟩
  have hr := Bd.returns
  have hlk := Bd.notSynchronized
  have hl := lv_entry ([.ref (ad 96), .int p1, .int p2]) (n := 3) (Nat.le_of_ble_eq_true rfl)
  rw [lg_entry_eq]
  generalize (lg_sl ([.ref (ad 96), .int p1, .int p2]) ++ List.replicate (3 - (lg_sl ([.ref (ad 96), .int p1, .int p2])).length) Slot.unset).toArray = ls at hl ⊢
  have hl : lv_has ls 3 [(0, .ref (ad 96)), (1, .int p1), (2, .int p2)] := hl
  show W p l e (io_rm 1) s m _ below meth c s.heap [] 0 0 _ (F0 m 0 ls [])
  unfold wp_X7_fits at hw
  refine lv_iload_n B.1 B.2.1 dX7_fits_0 rfl (lv_at hl 2 rfl) ?_
  refine lv_iconst (v := (-1)) B.1 B.2.1 dX7_fits_1 (by decide) ?_
  refine lv_icmp_eq (tgt := 24) B.1 B.2.1 dX7_fits_2 (by decide) (fun k2 => ?_) (fun k2 => ?_)
  · have hw := hw.1 k2
    refine lv_iconst (v := 1) B.1 B.2.1 dX7_fits_24 (by decide) ?_
    refine lv_goto (tgt := 29) B.1 B.2.1 dX7_fits_25 (by decide) ?_
    exact io_ret_z B Z hr hlk (Or.inr rfl) hw dX7_fits_29
  · have hw := hw.2 k2
    refine lv_iload_n B.1 B.2.1 dX7_fits_5 rfl (lv_at hl 1 rfl) ?_
    refine lv_iload_n B.1 B.2.1 dX7_fits_6 rfl (lv_at hl 2 rfl) ?_
    refine lv_if_ne (tgt := 17) B.1 B.2.1 dX7_fits_7 (by decide) (fun k3 => ?_) (fun k3 => ?_)
    · have hw := hw.2 k3
      refine lv_iload_n B.1 B.2.1 dX7_fits_17 rfl (lv_at hl 2 rfl) ?_
      refine io_call_i Z (io_runN [.int p1, .int p2] [] B Z (io_c_X9_within l D ca ad A _ p1 p2 _ hw) io_k_7_41 (io_hR (by decide) (by decide)) rfl hl.1 (Nat.le_of_ble_eq_true rfl) dX7_fits_18 ⟨Nat.le_refl _, Nat.le_refl _⟩) (fun r4 s5 H locs hw Z => ?_)
      obtain ⟨b6, hw⟩ := hw
      refine lv_if_eq (tgt := 28) B.1 B.2.1 dX7_fits_21 (by decide) (fun k7 => ?_) (fun k7 => ?_)
      · have hw := hw.1 k7
        refine lv_iconst (v := 0) B.1 B.2.1 dX7_fits_28 (by decide) ?_
        exact io_ret_z B Z hr hlk (Or.inl rfl) hw dX7_fits_29
      · have hw := hw.2 k7
        refine lv_iconst (v := 1) B.1 B.2.1 dX7_fits_24 (by decide) ?_
        refine lv_goto (tgt := 29) B.1 B.2.1 dX7_fits_25 (by decide) ?_
        exact io_ret_z B Z hr hlk (Or.inr rfl) hw dX7_fits_29
    · have hw := hw.1 k3
      refine lv_aload_n B.1 B.2.1 dX7_fits_10 rfl (lv_at hl 0 rfl) ?_
      refine io_g_7_4 B Z dX7_fits_11 ?_
      refine lv_goto (tgt := 18) B.1 B.2.1 dX7_fits_14 (by decide) ?_
      refine io_call_i Z (io_runN [.int p1, .int (σ 96 4)] [] B Z (io_c_X9_within l D ca ad A _ p1 (σ 96 4) _ hw) io_k_7_41 (io_hR (by decide) (by decide)) rfl hl.1 (Nat.le_of_ble_eq_true rfl) dX7_fits_18 ⟨Nat.le_refl _, Nat.le_refl _⟩) (fun r8 s9 H locs hw Z => ?_)
      obtain ⟨b10, hw⟩ := hw
      refine lv_if_eq (tgt := 28) B.1 B.2.1 dX7_fits_21 (by decide) (fun k11 => ?_) (fun k11 => ?_)
      · have hw := hw.1 k11
        refine lv_iconst (v := 0) B.1 B.2.1 dX7_fits_28 (by decide) ?_
        exact io_ret_z B Z hr hlk (Or.inl rfl) hw dX7_fits_29
      · have hw := hw.2 k11
        refine lv_iconst (v := 1) B.1 B.2.1 dX7_fits_24 (by decide) ?_
        refine lv_goto (tgt := 29) B.1 B.2.1 dX7_fits_25 (by decide) ?_
        exact io_ret_z B Z hr hlk (Or.inr rfl) hw dX7_fits_29
def wp_X7_allows (σ : io_M) (p1 : Int32) (p2 : Int32) (p3 : Int32) (p4 : Int32) (post : Int32 → io_M → Prop) : Prop := (vp_in p1 29 ∧ (wp_X7_fits σ p2 (io_b1 (p1).toNatClampNeg) (fun r2 s3 => ((r2 = 0 → post 0 s3) ∧ (¬ (r2 = 0) → (vp_in p1 29 ∧ (wp_X7_fits s3 p3 (io_b2 (p1).toNatClampNeg) (fun r6 s7 => ((r6 = 0 → post 0 s7) ∧ (¬ (r6 = 0) → (vp_in p1 29 ∧ (wp_X7_fits s7 p4 (io_b3 (p1).toNatClampNeg) (fun r10 s11 => ((r10 = 0 → post 0 s11) ∧ (¬ (r10 = 0) → post 1 s11)))))))))))))))
set_option maxHeartbeats 4000000 in
set_option maxRecDepth 100000 in
theorem io_c_X7_allows (l : Launch) (D : va_G) (ca : Nat → ClassId) (ad : Nat → Nat) (A : Nat → Prop) (σ : io_M) (p1 : Int32) (p2 : Int32) (p3 : Int32) (p4 : Int32) (post : Int32 → io_M → Prop) (hw : wp_X7_allows σ p1 p2 p3 p4 post) : Met l yX7_allows (.code yX7_allows cX7_allows 5 (some .boolean) :: io_tb) (io_rm 2) (va_Pc [.ref (ad 96), .int p1, .int p2, .int p3, .int p4] (io_W D ca ad A σ)) (va_Qi (fun r u => io_bl r ∧ post r u) (io_W D ca ad A) A) 0 0 A := by
  refine Met.ofW (cc := cX7_allows) (maxL := 5) (ret := (some .boolean)) (by decide) rfl ?_
  intro p e s m args below meth c s₁ Bd hml hv
  obtain ⟨rfl, hW0⟩ := hv
  have Z := io_Z.start hW0
  have B : CallFix p m c cX7_allows 5 s _ io_tb RX7 := ⟨Bd.exec, Bd.bytes, hml, findClass_of_methodNamed Bd.named, fun w hw => atoms_spec (ws := (.code yX7_allows cX7_allows 5 (some .boolean) :: io_tb)) Bd.pre w (List.mem_cons_of_mem _ hw)⟩
  have hr := Bd.returns
  have hlk := Bd.notSynchronized
  have hl := lv_entry ([.ref (ad 96), .int p1, .int p2, .int p3, .int p4]) (n := 5) (Nat.le_of_ble_eq_true rfl)
  rw [lg_entry_eq]
  generalize (lg_sl ([.ref (ad 96), .int p1, .int p2, .int p3, .int p4]) ++ List.replicate (5 - (lg_sl ([.ref (ad 96), .int p1, .int p2, .int p3, .int p4])).length) Slot.unset).toArray = ls at hl ⊢
  have hl : lv_has ls 5 [(0, .ref (ad 96)), (1, .int p1), (2, .int p2), (3, .int p3), (4, .int p4)] := hl
  show W p l e (io_rm 2) s m _ below meth c s.heap [] 0 0 _ (F0 m 0 ls [])
  unfold wp_X7_allows at hw
  refine lv_aload_n B.1 B.2.1 dX7_allows_0 rfl (lv_at hl 0 rfl) ?_
  refine lv_iload_n B.1 B.2.1 dX7_allows_1 rfl (lv_at hl 2 rfl) ?_
  refine io_gets B Z Z.2.2.2.2.1 (io_of 385 (by decide +kernel) (by decide +kernel)) hw.1 dX7_allows_2 dX7_allows_5 (lv_at hl 1 rfl) dX7_allows_6 ?_
  have hw := hw.2
  refine io_call_i Z (io_runV (ci := 7) (k := 96) [.int p2, .int (io_b1 (p1).toNatClampNeg)] [] B Z (io_c_X7_fits l D ca ad A _ p2 (io_b1 (p1).toNatClampNeg) _ hw) io_k_7_31 (io_hR (by decide) (by decide)) rfl (by decide) (io_e_96 _) rfl hl.1 (Nat.le_of_ble_eq_true rfl) dX7_allows_7 ⟨Nat.le_refl _, Nat.le_refl _⟩) (fun r2 s3 H locs hw Z => ?_)
  obtain ⟨b4, hw⟩ := hw
  refine lv_if_eq (tgt := 44) B.1 B.2.1 dX7_allows_10 (by decide) (fun k5 => ?_) (fun k5 => ?_)
  · have hw := hw.1 k5
    refine lv_iconst (v := 0) B.1 B.2.1 dX7_allows_44 (by decide) ?_
    exact io_ret_z B Z hr hlk (Or.inl rfl) hw dX7_allows_45
  · have hw := hw.2 k5
    refine lv_aload_n B.1 B.2.1 dX7_allows_13 rfl (lv_at hl 0 rfl) ?_
    refine lv_iload_n B.1 B.2.1 dX7_allows_14 rfl (lv_at hl 3 rfl) ?_
    refine io_gets B Z Z.2.2.2.2.2.1 (io_of 392 (by decide +kernel) (by decide +kernel)) hw.1 dX7_allows_15 dX7_allows_18 (lv_at hl 1 rfl) dX7_allows_19 ?_
    have hw := hw.2
    refine io_call_i Z (io_runV (ci := 7) (k := 96) [.int p3, .int (io_b2 (p1).toNatClampNeg)] [] B Z (io_c_X7_fits l D ca ad A _ p3 (io_b2 (p1).toNatClampNeg) _ hw) io_k_7_31 (io_hR (by decide) (by decide)) rfl (by decide) (io_e_96 _) rfl hl.1 (Nat.le_of_ble_eq_true rfl) dX7_allows_20 ⟨Nat.le_refl _, Nat.le_refl _⟩) (fun r6 s7 H locs hw Z => ?_)
    obtain ⟨b8, hw⟩ := hw
    refine lv_if_eq (tgt := 44) B.1 B.2.1 dX7_allows_23 (by decide) (fun k9 => ?_) (fun k9 => ?_)
    · have hw := hw.1 k9
      refine lv_iconst (v := 0) B.1 B.2.1 dX7_allows_44 (by decide) ?_
      exact io_ret_z B Z hr hlk (Or.inl rfl) hw dX7_allows_45
    · have hw := hw.2 k9
      refine lv_aload_n B.1 B.2.1 dX7_allows_26 rfl (lv_at hl 0 rfl) ?_
      refine lv_iload B.1 B.2.1 dX7_allows_27 (lv_at hl 4 rfl) ?_
      refine io_gets B Z Z.2.2.2.2.2.2.1 (io_of 394 (by decide +kernel) (by decide +kernel)) hw.1 dX7_allows_29 dX7_allows_32 (lv_at hl 1 rfl) dX7_allows_33 ?_
      have hw := hw.2
      refine io_call_i Z (io_runV (ci := 7) (k := 96) [.int p4, .int (io_b3 (p1).toNatClampNeg)] [] B Z (io_c_X7_fits l D ca ad A _ p4 (io_b3 (p1).toNatClampNeg) _ hw) io_k_7_31 (io_hR (by decide) (by decide)) rfl (by decide) (io_e_96 _) rfl hl.1 (Nat.le_of_ble_eq_true rfl) dX7_allows_34 ⟨Nat.le_refl _, Nat.le_refl _⟩) (fun r10 s11 H locs hw Z => ?_)
      obtain ⟨b12, hw⟩ := hw
      refine lv_if_eq (tgt := 44) B.1 B.2.1 dX7_allows_37 (by decide) (fun k13 => ?_) (fun k13 => ?_)
      · have hw := hw.1 k13
        refine lv_iconst (v := 0) B.1 B.2.1 dX7_allows_44 (by decide) ?_
        exact io_ret_z B Z hr hlk (Or.inl rfl) hw dX7_allows_45
      · have hw := hw.2 k13
        refine lv_iconst (v := 1) B.1 B.2.1 dX7_allows_40 (by decide) ?_
        refine lv_goto (tgt := 45) B.1 B.2.1 dX7_allows_41 (by decide) ?_
        exact io_ret_z B Z hr hlk (Or.inr rfl) hw dX7_allows_45
def wp_X0_forget (σ : io_M) (post : io_M → Prop) : Prop := (∀ s2, s2 = io_up σ 93 2 0 → (∀ s4, s4 = io_up s2 93 3 0 → (∀ s6, s6 = io_up s4 93 4 0 → post s6)))
set_option maxHeartbeats 4000000 in
set_option maxRecDepth 100000 in
theorem io_c_X0_forget (l : Launch) (D : va_G) (ca : Nat → ClassId) (ad : Nat → Nat) (A : Nat → Prop) (σ : io_M) (post : io_M → Prop) (hw : wp_X0_forget σ post) : Met l yX0_forget (.code yX0_forget cX0_forget 1 none :: io_tb) (io_rm 0) (va_Pc [.ref (ad 93)] (io_W D ca ad A σ)) (va_Qv post (io_W D ca ad A) A) 0 0 A := by
  refine Met.ofW (cc := cX0_forget) (maxL := 1) (ret := none) (by decide) rfl ?_
  intro p e s m args below meth c s₁ Bd hml hv
  obtain ⟨rfl, hW0⟩ := hv
  have Z := io_Z.start hW0
  have B : CallFix p m c cX0_forget 1 s _ io_tb RX0 := ⟨Bd.exec, Bd.bytes, hml, findClass_of_methodNamed Bd.named, fun w hw => atoms_spec (ws := (.code yX0_forget cX0_forget 1 none :: io_tb)) Bd.pre w (List.mem_cons_of_mem _ hw)⟩
  have hr := Bd.returns
  have hlk := Bd.notSynchronized
  have hl := lv_entry ([.ref (ad 93)]) (n := 1) (Nat.le_of_ble_eq_true rfl)
  rw [lg_entry_eq]
  generalize (lg_sl ([.ref (ad 93)]) ++ List.replicate (1 - (lg_sl ([.ref (ad 93)])).length) Slot.unset).toArray = ls at hl ⊢
  have hl : lv_has ls 1 [(0, .ref (ad 93))] := hl
  show W p l e (io_rm 0) s m _ below meth c s.heap [] 0 0 _ (F0 m 0 ls [])
  unfold wp_X0_forget at hw
  refine lv_aload_n B.1 B.2.1 dX0_forget_0 rfl (lv_at hl 0 rfl) ?_
  refine lv_iconst (v := 0) B.1 B.2.1 dX0_forget_1 (by decide) ?_
  refine io_p_0_2 B Z dX0_forget_2 (fun s2 H locs e3 Z => ?_)
  have hw := hw s2 e3
  refine lv_aload_n B.1 B.2.1 dX0_forget_5 rfl (lv_at hl 0 rfl) ?_
  refine lv_iconst (v := 0) B.1 B.2.1 dX0_forget_6 (by decide) ?_
  refine io_p_0_3 B Z dX0_forget_7 (fun s4 H locs e5 Z => ?_)
  have hw := hw s4 e5
  refine lv_aload_n B.1 B.2.1 dX0_forget_10 rfl (lv_at hl 0 rfl) ?_
  refine lv_iconst (v := 0) B.1 B.2.1 dX0_forget_11 (by decide) ?_
  refine io_p_0_4 B Z dX0_forget_12 (fun s6 H locs e7 Z => ?_)
  have hw := hw s6 e7
  exact io_ret_v B Z hr hlk hw dX0_forget_15
def wp_X7_forget (σ : io_M) (post : io_M → Prop) : Prop := (∀ s2, s2 = io_up σ 96 4 0 → post s2)
set_option maxHeartbeats 4000000 in
set_option maxRecDepth 100000 in
theorem io_c_X7_forget (l : Launch) (D : va_G) (ca : Nat → ClassId) (ad : Nat → Nat) (A : Nat → Prop) (σ : io_M) (post : io_M → Prop) (hw : wp_X7_forget σ post) : Met l yX7_forget (.code yX7_forget cX7_forget 1 none :: io_tb) (io_rm 0) (va_Pc [.ref (ad 96)] (io_W D ca ad A σ)) (va_Qv post (io_W D ca ad A) A) 0 0 A := by
  refine Met.ofW (cc := cX7_forget) (maxL := 1) (ret := none) (by decide) rfl ?_
  intro p e s m args below meth c s₁ Bd hml hv
  obtain ⟨rfl, hW0⟩ := hv
  have Z := io_Z.start hW0
  have B : CallFix p m c cX7_forget 1 s _ io_tb RX7 := ⟨Bd.exec, Bd.bytes, hml, findClass_of_methodNamed Bd.named, fun w hw => atoms_spec (ws := (.code yX7_forget cX7_forget 1 none :: io_tb)) Bd.pre w (List.mem_cons_of_mem _ hw)⟩
  have hr := Bd.returns
  have hlk := Bd.notSynchronized
  have hl := lv_entry ([.ref (ad 96)]) (n := 1) (Nat.le_of_ble_eq_true rfl)
  rw [lg_entry_eq]
  generalize (lg_sl ([.ref (ad 96)]) ++ List.replicate (1 - (lg_sl ([.ref (ad 96)])).length) Slot.unset).toArray = ls at hl ⊢
  have hl : lv_has ls 1 [(0, .ref (ad 96))] := hl
  show W p l e (io_rm 0) s m _ below meth c s.heap [] 0 0 _ (F0 m 0 ls [])
  unfold wp_X7_forget at hw
  refine lv_aload_n B.1 B.2.1 dX7_forget_0 rfl (lv_at hl 0 rfl) ?_
  refine lv_iconst (v := 0) B.1 B.2.1 dX7_forget_1 (by decide) ?_
  refine io_p_7_4 B Z dX7_forget_2 (fun s2 H locs e3 Z => ?_)
  have hw := hw s2 e3
  exact io_ret_v B Z hr hlk hw dX7_forget_5
def wp_X7_length (σ : io_M) (post : Int32 → io_M → Prop) : Prop := post (σ 96 4) σ
set_option maxHeartbeats 4000000 in
set_option maxRecDepth 100000 in
theorem io_c_X7_length (l : Launch) (D : va_G) (ca : Nat → ClassId) (ad : Nat → Nat) (A : Nat → Prop) (σ : io_M) (post : Int32 → io_M → Prop) (hw : wp_X7_length σ post) : Met l yX7_length (.code yX7_length cX7_length 1 (some .int) :: io_tb) (io_rm 0) (va_Pc [.ref (ad 96)] (io_W D ca ad A σ)) (va_Qi post (io_W D ca ad A) A) 0 0 A := by
  refine Met.ofW (cc := cX7_length) (maxL := 1) (ret := (some .int)) (by decide) rfl ?_
  intro p e s m args below meth c s₁ Bd hml hv
  obtain ⟨rfl, hW0⟩ := hv
  have Z := io_Z.start hW0
  have B : CallFix p m c cX7_length 1 s _ io_tb RX7 := ⟨Bd.exec, Bd.bytes, hml, findClass_of_methodNamed Bd.named, fun w hw => atoms_spec (ws := (.code yX7_length cX7_length 1 (some .int) :: io_tb)) Bd.pre w (List.mem_cons_of_mem _ hw)⟩
  have hr := Bd.returns
  have hlk := Bd.notSynchronized
  have hl := lv_entry ([.ref (ad 96)]) (n := 1) (Nat.le_of_ble_eq_true rfl)
  rw [lg_entry_eq]
  generalize (lg_sl ([.ref (ad 96)]) ++ List.replicate (1 - (lg_sl ([.ref (ad 96)])).length) Slot.unset).toArray = ls at hl ⊢
  have hl : lv_has ls 1 [(0, .ref (ad 96))] := hl
  show W p l e (io_rm 0) s m _ below meth c s.heap [] 0 0 _ (F0 m 0 ls [])
  unfold wp_X7_length at hw
  refine lv_aload_n B.1 B.2.1 dX7_length_0 rfl (lv_at hl 0 rfl) ?_
  refine io_g_7_4 B Z dX7_length_1 ?_
  exact io_ret_i B Z hr hlk hw dX7_length_4
def wp_X4_forget (σ : io_M) (post : io_M → Prop) : Prop := (∀ s2, s2 = io_up σ 105 1 0 → post s2)
set_option maxHeartbeats 4000000 in
set_option maxRecDepth 100000 in
theorem io_c_X4_forget (l : Launch) (D : va_G) (ca : Nat → ClassId) (ad : Nat → Nat) (A : Nat → Prop) (σ : io_M) (post : io_M → Prop) (hw : wp_X4_forget σ post) : Met l yX4_forget (.code yX4_forget cX4_forget 1 none :: io_tb) (io_rm 0) (va_Pc [.ref (ad 105)] (io_W D ca ad A σ)) (va_Qv post (io_W D ca ad A) A) 0 0 A := by
  refine Met.ofW (cc := cX4_forget) (maxL := 1) (ret := none) (by decide) rfl ?_
  intro p e s m args below meth c s₁ Bd hml hv
  obtain ⟨rfl, hW0⟩ := hv
  have Z := io_Z.start hW0
  have B : CallFix p m c cX4_forget 1 s _ io_tb RX4 := ⟨Bd.exec, Bd.bytes, hml, findClass_of_methodNamed Bd.named, fun w hw => atoms_spec (ws := (.code yX4_forget cX4_forget 1 none :: io_tb)) Bd.pre w (List.mem_cons_of_mem _ hw)⟩
  have hr := Bd.returns
  have hlk := Bd.notSynchronized
  have hl := lv_entry ([.ref (ad 105)]) (n := 1) (Nat.le_of_ble_eq_true rfl)
  rw [lg_entry_eq]
  generalize (lg_sl ([.ref (ad 105)]) ++ List.replicate (1 - (lg_sl ([.ref (ad 105)])).length) Slot.unset).toArray = ls at hl ⊢
  have hl : lv_has ls 1 [(0, .ref (ad 105))] := hl
  show W p l e (io_rm 0) s m _ below meth c s.heap [] 0 0 _ (F0 m 0 ls [])
  unfold wp_X4_forget at hw
  refine lv_aload_n B.1 B.2.1 dX4_forget_0 rfl (lv_at hl 0 rfl) ?_
  refine lv_iconst (v := 0) B.1 B.2.1 dX4_forget_1 (by decide) ?_
  refine io_p_4_1 B Z dX4_forget_2 (fun s2 H locs e3 Z => ?_)
  have hw := hw s2 e3
  exact io_ret_v B Z hr hlk hw dX4_forget_5
def wp_X7_code (σ : io_M) (p1 : Int32) (post : Int32 → io_M → Prop) : Prop := (vp_in p1 60 ∧ post (σ 97 (p1).toNatClampNeg) σ)
set_option maxHeartbeats 4000000 in
set_option maxRecDepth 100000 in
theorem io_c_X7_code (l : Launch) (D : va_G) (ca : Nat → ClassId) (ad : Nat → Nat) (A : Nat → Prop) (σ : io_M) (p1 : Int32) (post : Int32 → io_M → Prop) (hw : wp_X7_code σ p1 post) : Met l yX7_code (.code yX7_code cX7_code 2 (some .int) :: io_tb) (io_rm 0) (va_Pc [.ref (ad 96), .int p1] (io_W D ca ad A σ)) (va_Qi post (io_W D ca ad A) A) 0 0 A := by
  refine Met.ofW (cc := cX7_code) (maxL := 2) (ret := (some .int)) (by decide) rfl ?_
  intro p e s m args below meth c s₁ Bd hml hv
  obtain ⟨rfl, hW0⟩ := hv
  have Z := io_Z.start hW0
  have B : CallFix p m c cX7_code 2 s _ io_tb RX7 := ⟨Bd.exec, Bd.bytes, hml, findClass_of_methodNamed Bd.named, fun w hw => atoms_spec (ws := (.code yX7_code cX7_code 2 (some .int) :: io_tb)) Bd.pre w (List.mem_cons_of_mem _ hw)⟩
  have hr := Bd.returns
  have hlk := Bd.notSynchronized
  have hl := lv_entry ([.ref (ad 96), .int p1]) (n := 2) (Nat.le_of_ble_eq_true rfl)
  rw [lg_entry_eq]
  generalize (lg_sl ([.ref (ad 96), .int p1]) ++ List.replicate (2 - (lg_sl ([.ref (ad 96), .int p1])).length) Slot.unset).toArray = ls at hl ⊢
  have hl : lv_has ls 2 [(0, .ref (ad 96)), (1, .int p1)] := hl
  show W p l e (io_rm 0) s m _ below meth c s.heap [] 0 0 _ (F0 m 0 ls [])
  unfold wp_X7_code at hw
  refine lv_aload_n B.1 B.2.1 dX7_code_0 rfl (lv_at hl 0 rfl) ?_
  refine io_g_7_0 B Z dX7_code_1 ?_
  refine lv_iload_n B.1 B.2.1 dX7_code_4 rfl (lv_at hl 1 rfl) ?_
  refine io_iald B Z 97 (by decide) io_e_97 hw.1 dX7_code_5 ?_
  have hw := hw.2
  exact io_ret_i B Z hr hlk hw dX7_code_6
def wp_X7_first (σ : io_M) (p1 : Int32) (post : Int32 → io_M → Prop) : Prop := (vp_in p1 60 ∧ post (σ 98 (p1).toNatClampNeg) σ)
set_option maxHeartbeats 4000000 in
set_option maxRecDepth 100000 in
theorem io_c_X7_first (l : Launch) (D : va_G) (ca : Nat → ClassId) (ad : Nat → Nat) (A : Nat → Prop) (σ : io_M) (p1 : Int32) (post : Int32 → io_M → Prop) (hw : wp_X7_first σ p1 post) : Met l yX7_first (.code yX7_first cX7_first 2 (some .int) :: io_tb) (io_rm 0) (va_Pc [.ref (ad 96), .int p1] (io_W D ca ad A σ)) (va_Qi post (io_W D ca ad A) A) 0 0 A := by
  refine Met.ofW (cc := cX7_first) (maxL := 2) (ret := (some .int)) (by decide) rfl ?_
  intro p e s m args below meth c s₁ Bd hml hv
  obtain ⟨rfl, hW0⟩ := hv
  have Z := io_Z.start hW0
  have B : CallFix p m c cX7_first 2 s _ io_tb RX7 := ⟨Bd.exec, Bd.bytes, hml, findClass_of_methodNamed Bd.named, fun w hw => atoms_spec (ws := (.code yX7_first cX7_first 2 (some .int) :: io_tb)) Bd.pre w (List.mem_cons_of_mem _ hw)⟩
  have hr := Bd.returns
  have hlk := Bd.notSynchronized
  have hl := lv_entry ([.ref (ad 96), .int p1]) (n := 2) (Nat.le_of_ble_eq_true rfl)
  rw [lg_entry_eq]
  generalize (lg_sl ([.ref (ad 96), .int p1]) ++ List.replicate (2 - (lg_sl ([.ref (ad 96), .int p1])).length) Slot.unset).toArray = ls at hl ⊢
  have hl : lv_has ls 2 [(0, .ref (ad 96)), (1, .int p1)] := hl
  show W p l e (io_rm 0) s m _ below meth c s.heap [] 0 0 _ (F0 m 0 ls [])
  unfold wp_X7_first at hw
  refine lv_aload_n B.1 B.2.1 dX7_first_0 rfl (lv_at hl 0 rfl) ?_
  refine io_g_7_1 B Z dX7_first_1 ?_
  refine lv_iload_n B.1 B.2.1 dX7_first_4 rfl (lv_at hl 1 rfl) ?_
  refine io_iald B Z 98 (by decide) io_e_98 hw.1 dX7_first_5 ?_
  have hw := hw.2
  exact io_ret_i B Z hr hlk hw dX7_first_6
def wp_X7_second (σ : io_M) (p1 : Int32) (post : Int32 → io_M → Prop) : Prop := (vp_in p1 60 ∧ post (σ 99 (p1).toNatClampNeg) σ)
set_option maxHeartbeats 4000000 in
set_option maxRecDepth 100000 in
theorem io_c_X7_second (l : Launch) (D : va_G) (ca : Nat → ClassId) (ad : Nat → Nat) (A : Nat → Prop) (σ : io_M) (p1 : Int32) (post : Int32 → io_M → Prop) (hw : wp_X7_second σ p1 post) : Met l yX7_second (.code yX7_second cX7_second 2 (some .int) :: io_tb) (io_rm 0) (va_Pc [.ref (ad 96), .int p1] (io_W D ca ad A σ)) (va_Qi post (io_W D ca ad A) A) 0 0 A := by
  refine Met.ofW (cc := cX7_second) (maxL := 2) (ret := (some .int)) (by decide) rfl ?_
  intro p e s m args below meth c s₁ Bd hml hv
  obtain ⟨rfl, hW0⟩ := hv
  have Z := io_Z.start hW0
  have B : CallFix p m c cX7_second 2 s _ io_tb RX7 := ⟨Bd.exec, Bd.bytes, hml, findClass_of_methodNamed Bd.named, fun w hw => atoms_spec (ws := (.code yX7_second cX7_second 2 (some .int) :: io_tb)) Bd.pre w (List.mem_cons_of_mem _ hw)⟩
  have hr := Bd.returns
  have hlk := Bd.notSynchronized
  have hl := lv_entry ([.ref (ad 96), .int p1]) (n := 2) (Nat.le_of_ble_eq_true rfl)
  rw [lg_entry_eq]
  generalize (lg_sl ([.ref (ad 96), .int p1]) ++ List.replicate (2 - (lg_sl ([.ref (ad 96), .int p1])).length) Slot.unset).toArray = ls at hl ⊢
  have hl : lv_has ls 2 [(0, .ref (ad 96)), (1, .int p1)] := hl
  show W p l e (io_rm 0) s m _ below meth c s.heap [] 0 0 _ (F0 m 0 ls [])
  unfold wp_X7_second at hw
  refine lv_aload_n B.1 B.2.1 dX7_second_0 rfl (lv_at hl 0 rfl) ?_
  refine io_g_7_2 B Z dX7_second_1 ?_
  refine lv_iload_n B.1 B.2.1 dX7_second_4 rfl (lv_at hl 1 rfl) ?_
  refine io_iald B Z 99 (by decide) io_e_99 hw.1 dX7_second_5 ?_
  have hw := hw.2
  exact io_ret_i B Z hr hlk hw dX7_second_6
def wp_X0_readByte (σ : io_M) (post : Int32 → io_M → Prop) : Prop := (((σ 93 3) < (σ 93 2) → (vp_in (σ 93 3) 100 ∧ (∀ s3, s3 = io_up σ 93 3 ((σ 93 3) + 1) → post (σ 94 ((σ 93 3)).toNatClampNeg) s3))) ∧ (¬ ((σ 93 3) < (σ 93 2)) → (wp_X9_turned σ 3 (fun r5 s6 => post r5 s6))))
set_option maxHeartbeats 4000000 in
set_option maxRecDepth 100000 in
theorem io_c_X0_readByte (l : Launch) (D : va_G) (ca : Nat → ClassId) (ad : Nat → Nat) (A : Nat → Prop) (σ : io_M) (post : Int32 → io_M → Prop) (hw : wp_X0_readByte σ post) : Met l yX0_readByte (.code yX0_readByte cX0_readByte 2 (some .int) :: io_tb) (io_rm 1) (va_Pc [.ref (ad 93)] (io_W D ca ad A σ)) (va_Qi post (io_W D ca ad A) A) 0 0 A := by
  refine Met.ofW (cc := cX0_readByte) (maxL := 2) (ret := (some .int)) (by decide) rfl ?_
  intro p e s m args below meth c s₁ Bd hml hv
  obtain ⟨rfl, hW0⟩ := hv
  have Z := io_Z.start hW0
  have B : CallFix p m c cX0_readByte 2 s _ io_tb RX0 := ⟨Bd.exec, Bd.bytes, hml, findClass_of_methodNamed Bd.named, fun w hw => atoms_spec (ws := (.code yX0_readByte cX0_readByte 2 (some .int) :: io_tb)) Bd.pre w (List.mem_cons_of_mem _ hw)⟩
  have hr := Bd.returns
  have hlk := Bd.notSynchronized
  have hl := lv_entry ([.ref (ad 93)]) (n := 2) (Nat.le_of_ble_eq_true rfl)
  rw [lg_entry_eq]
  generalize (lg_sl ([.ref (ad 93)]) ++ List.replicate (2 - (lg_sl ([.ref (ad 93)])).length) Slot.unset).toArray = ls at hl ⊢
  have hl : lv_has ls 2 [(0, .ref (ad 93))] := hl
  show W p l e (io_rm 1) s m _ below meth c s.heap [] 0 0 _ (F0 m 0 ls [])
  unfold wp_X0_readByte at hw
  refine lv_aload_n B.1 B.2.1 dX0_readByte_0 rfl (lv_at hl 0 rfl) ?_
  refine io_g_0_3 B Z dX0_readByte_1 ?_
  refine lv_aload_n B.1 B.2.1 dX0_readByte_4 rfl (lv_at hl 0 rfl) ?_
  refine io_g_0_2 B Z dX0_readByte_5 ?_
  refine lv_icmp_lt (tgt := 16) B.1 B.2.1 dX0_readByte_8 (by decide) (fun k2 => ?_) (fun k2 => ?_)
  · have hw := hw.1 k2
    refine lv_aload_n B.1 B.2.1 dX0_readByte_16 rfl (lv_at hl 0 rfl) ?_
    refine io_g_0_0 B Z dX0_readByte_17 ?_
    refine lv_aload_n B.1 B.2.1 dX0_readByte_20 rfl (lv_at hl 0 rfl) ?_
    refine io_g_0_3 B Z dX0_readByte_21 ?_
    refine io_iald B Z 94 (by decide) io_e_94 hw.1 dX0_readByte_24 ?_
    have hw := hw.2
    refine lv_istore_n (lv' := [(1, .int (σ 94 ((σ 93 3)).toNatClampNeg)), (0, .ref (ad 93))]) B.1 B.2.1 dX0_readByte_25 rfl hl (by decide) rfl (fun ls hl => ?_)
    refine lv_aload_n B.1 B.2.1 dX0_readByte_26 rfl (lv_at hl 1 rfl) ?_
    refine lv_dup B.1 B.2.1 dX0_readByte_27 rfl ?_
    refine io_g_0_3 B Z dX0_readByte_28 ?_
    refine lv_iconst (v := 1) B.1 B.2.1 dX0_readByte_31 (by decide) ?_
    refine lv_iadd B.1 B.2.1 dX0_readByte_32 ?_
    refine io_p_0_3 B Z dX0_readByte_33 (fun s3 H locs e4 Z => ?_)
    have hw := hw s3 e4
    refine lv_iload_n B.1 B.2.1 dX0_readByte_36 rfl (lv_at hl 0 rfl) ?_
    exact io_ret_i B Z hr hlk hw dX0_readByte_37
  · have hw := hw.2 k2
    refine lv_iconst (v := 3) B.1 B.2.1 dX0_readByte_11 (by decide) ?_
    refine io_call_i Z (io_runN [.int 3] [] B Z (io_c_X9_turned l D ca ad A _ 3 _ hw) io_k_0_28 (io_hR (by decide) (by decide)) rfl hl.1 (Nat.le_of_ble_eq_true rfl) dX0_readByte_12 ⟨Nat.le_refl _, Nat.le_refl _⟩) (fun r5 s6 H locs hw Z => ?_)
    exact io_ret_i B Z hr hlk hw dX0_readByte_15
def wp_X4_note (σ : io_M) (p1 : Int32) (post : io_M → Prop) : Prop := ((300 ≤ (σ 105 1) → (∀ s3, s3 = io_up σ 105 1 ((σ 105 1) + 1) → post s3)) ∧ (¬ (300 ≤ (σ 105 1)) → (vp_in (σ 105 1) 300 ∧ ∀ s5, s5 = io_up σ 106 ((σ 105 1)).toNatClampNeg (p1) → (∀ s7, s7 = io_up s5 105 1 ((s5 105 1) + 1) → post s7))))
set_option maxHeartbeats 4000000 in
set_option maxRecDepth 100000 in
theorem io_c_X4_note (l : Launch) (D : va_G) (ca : Nat → ClassId) (ad : Nat → Nat) (A : Nat → Prop) (σ : io_M) (p1 : Int32) (post : io_M → Prop) (hw : wp_X4_note σ p1 post) : Met l yX4_note (.code yX4_note cX4_note 2 none :: io_tb) (io_rm 0) (va_Pc [.ref (ad 105), .int p1] (io_W D ca ad A σ)) (va_Qv post (io_W D ca ad A) A) 0 0 A := by
  refine Met.ofW (cc := cX4_note) (maxL := 2) (ret := none) (by decide) rfl ?_
  intro p e s m args below meth c s₁ Bd hml hv
  obtain ⟨rfl, hW0⟩ := hv
  have Z := io_Z.start hW0
  have B : CallFix p m c cX4_note 2 s _ io_tb RX4 := ⟨Bd.exec, Bd.bytes, hml, findClass_of_methodNamed Bd.named, fun w hw => atoms_spec (ws := (.code yX4_note cX4_note 2 none :: io_tb)) Bd.pre w (List.mem_cons_of_mem _ hw)⟩
  have hr := Bd.returns
  have hlk := Bd.notSynchronized
  have hl := lv_entry ([.ref (ad 105), .int p1]) (n := 2) (Nat.le_of_ble_eq_true rfl)
  rw [lg_entry_eq]
  generalize (lg_sl ([.ref (ad 105), .int p1]) ++ List.replicate (2 - (lg_sl ([.ref (ad 105), .int p1])).length) Slot.unset).toArray = ls at hl ⊢
  have hl : lv_has ls 2 [(0, .ref (ad 105)), (1, .int p1)] := hl
  show W p l e (io_rm 0) s m _ below meth c s.heap [] 0 0 _ (F0 m 0 ls [])
  unfold wp_X4_note at hw
  refine lv_aload_n B.1 B.2.1 dX4_note_0 rfl (lv_at hl 0 rfl) ?_
  refine io_g_4_1 B Z dX4_note_1 ?_
  refine lv_sipush (v := 300) B.1 B.2.1 dX4_note_4 (by decide) ?_
  refine lv_icmp_ge (tgt := 20) B.1 B.2.1 dX4_note_7 (by decide) (fun k2 => ?_) (fun k2 => ?_)
  · have hw := hw.1 k2
    refine lv_aload_n B.1 B.2.1 dX4_note_20 rfl (lv_at hl 0 rfl) ?_
    refine lv_dup B.1 B.2.1 dX4_note_21 rfl ?_
    refine io_g_4_1 B Z dX4_note_22 ?_
    refine lv_iconst (v := 1) B.1 B.2.1 dX4_note_25 (by decide) ?_
    refine lv_iadd B.1 B.2.1 dX4_note_26 ?_
    refine io_p_4_1 B Z dX4_note_27 (fun s3 H locs e4 Z => ?_)
    have hw := hw s3 e4
    exact io_ret_v B Z hr hlk hw dX4_note_30
  · have hw := hw.2 k2
    refine lv_aload_n B.1 B.2.1 dX4_note_10 rfl (lv_at hl 0 rfl) ?_
    refine io_g_4_0 B Z dX4_note_11 ?_
    refine lv_aload_n B.1 B.2.1 dX4_note_14 rfl (lv_at hl 0 rfl) ?_
    refine io_g_4_1 B Z dX4_note_15 ?_
    refine lv_iload_n B.1 B.2.1 dX4_note_18 rfl (lv_at hl 1 rfl) ?_
    refine io_iast B Z 106 (by decide) io_e_106 hw.1 dX4_note_19 (fun s5 H locs e6 Z => ?_)
    have hw := hw.2 s5 e6
    refine lv_aload_n B.1 B.2.1 dX4_note_20 rfl (lv_at hl 0 rfl) ?_
    refine lv_dup B.1 B.2.1 dX4_note_21 rfl ?_
    refine io_g_4_1 B Z dX4_note_22 ?_
    refine lv_iconst (v := 1) B.1 B.2.1 dX4_note_25 (by decide) ?_
    refine lv_iadd B.1 B.2.1 dX4_note_26 ?_
    refine io_p_4_1 B Z dX4_note_27 (fun s7 H locs e8 Z => ?_)
    have hw := hw s7 e8
    exact io_ret_v B Z hr hlk hw dX4_note_30
def wp_X7_third (σ : io_M) (p1 : Int32) (post : Int32 → io_M → Prop) : Prop := (vp_in p1 60 ∧ post (σ 100 (p1).toNatClampNeg) σ)
set_option maxHeartbeats 4000000 in
set_option maxRecDepth 100000 in
theorem io_c_X7_third (l : Launch) (D : va_G) (ca : Nat → ClassId) (ad : Nat → Nat) (A : Nat → Prop) (σ : io_M) (p1 : Int32) (post : Int32 → io_M → Prop) (hw : wp_X7_third σ p1 post) : Met l yX7_third (.code yX7_third cX7_third 2 (some .int) :: io_tb) (io_rm 0) (va_Pc [.ref (ad 96), .int p1] (io_W D ca ad A σ)) (va_Qi post (io_W D ca ad A) A) 0 0 A := by
  refine Met.ofW (cc := cX7_third) (maxL := 2) (ret := (some .int)) (by decide) rfl ?_
  intro p e s m args below meth c s₁ Bd hml hv
  obtain ⟨rfl, hW0⟩ := hv
  have Z := io_Z.start hW0
  have B : CallFix p m c cX7_third 2 s _ io_tb RX7 := ⟨Bd.exec, Bd.bytes, hml, findClass_of_methodNamed Bd.named, fun w hw => atoms_spec (ws := (.code yX7_third cX7_third 2 (some .int) :: io_tb)) Bd.pre w (List.mem_cons_of_mem _ hw)⟩
  have hr := Bd.returns
  have hlk := Bd.notSynchronized
  have hl := lv_entry ([.ref (ad 96), .int p1]) (n := 2) (Nat.le_of_ble_eq_true rfl)
  rw [lg_entry_eq]
  generalize (lg_sl ([.ref (ad 96), .int p1]) ++ List.replicate (2 - (lg_sl ([.ref (ad 96), .int p1])).length) Slot.unset).toArray = ls at hl ⊢
  have hl : lv_has ls 2 [(0, .ref (ad 96)), (1, .int p1)] := hl
  show W p l e (io_rm 0) s m _ below meth c s.heap [] 0 0 _ (F0 m 0 ls [])
  unfold wp_X7_third at hw
  refine lv_aload_n B.1 B.2.1 dX7_third_0 rfl (lv_at hl 0 rfl) ?_
  refine io_g_7_3 B Z dX7_third_1 ?_
  refine lv_iload_n B.1 B.2.1 dX7_third_4 rfl (lv_at hl 1 rfl) ?_
  refine io_iald B Z 100 (by decide) io_e_100 hw.1 dX7_third_5 ?_
  have hw := hw.2
  exact io_ret_i B Z hr hlk hw dX7_third_6
def wp_X0_print (σ : io_M) (p1 : Int32) (post : Int32 → io_M → Prop) : Prop := ((200 ≤ (σ 93 4) → (∀ s3, s3 = io_up σ 93 4 ((σ 93 4) + 1) → post (s3 93 4) s3)) ∧ (¬ (200 ≤ (σ 93 4)) → (vp_in (σ 93 4) 200 ∧ ∀ s5, s5 = io_up σ 95 ((σ 93 4)).toNatClampNeg ((p1 &&& 255)) → (∀ s7, s7 = io_up s5 93 4 ((s5 93 4) + 1) → post (s7 93 4) s7))))
set_option maxHeartbeats 4000000 in
set_option maxRecDepth 100000 in
theorem io_c_X0_print (l : Launch) (D : va_G) (ca : Nat → ClassId) (ad : Nat → Nat) (A : Nat → Prop) (σ : io_M) (p1 : Int32) (post : Int32 → io_M → Prop) (hw : wp_X0_print σ p1 post) : Met l yX0_print (.code yX0_print cX0_print 2 (some .int) :: io_tb) (io_rm 0) (va_Pc [.ref (ad 93), .int p1] (io_W D ca ad A σ)) (va_Qi post (io_W D ca ad A) A) 0 0 A := by
  refine Met.ofW (cc := cX0_print) (maxL := 2) (ret := (some .int)) (by decide) rfl ?_
  intro p e s m args below meth c s₁ Bd hml hv
  obtain ⟨rfl, hW0⟩ := hv
  have Z := io_Z.start hW0
  have B : CallFix p m c cX0_print 2 s _ io_tb RX0 := ⟨Bd.exec, Bd.bytes, hml, findClass_of_methodNamed Bd.named, fun w hw => atoms_spec (ws := (.code yX0_print cX0_print 2 (some .int) :: io_tb)) Bd.pre w (List.mem_cons_of_mem _ hw)⟩
  have hr := Bd.returns
  have hlk := Bd.notSynchronized
  have hl := lv_entry ([.ref (ad 93), .int p1]) (n := 2) (Nat.le_of_ble_eq_true rfl)
  rw [lg_entry_eq]
  generalize (lg_sl ([.ref (ad 93), .int p1]) ++ List.replicate (2 - (lg_sl ([.ref (ad 93), .int p1])).length) Slot.unset).toArray = ls at hl ⊢
  have hl : lv_has ls 2 [(0, .ref (ad 93)), (1, .int p1)] := hl
  show W p l e (io_rm 0) s m _ below meth c s.heap [] 0 0 _ (F0 m 0 ls [])
  unfold wp_X0_print at hw
  refine lv_aload_n B.1 B.2.1 dX0_print_0 rfl (lv_at hl 0 rfl) ?_
  refine io_g_0_4 B Z dX0_print_1 ?_
  refine lv_sipush (v := 200) B.1 B.2.1 dX0_print_4 (by decide) ?_
  refine lv_icmp_ge (tgt := 24) B.1 B.2.1 dX0_print_7 (by decide) (fun k2 => ?_) (fun k2 => ?_)
  · have hw := hw.1 k2
    refine lv_aload_n B.1 B.2.1 dX0_print_24 rfl (lv_at hl 0 rfl) ?_
    refine lv_dup B.1 B.2.1 dX0_print_25 rfl ?_
    refine io_g_0_4 B Z dX0_print_26 ?_
    refine lv_iconst (v := 1) B.1 B.2.1 dX0_print_29 (by decide) ?_
    refine lv_iadd B.1 B.2.1 dX0_print_30 ?_
    refine io_p_0_4 B Z dX0_print_31 (fun s3 H locs e4 Z => ?_)
    have hw := hw s3 e4
    refine lv_aload_n B.1 B.2.1 dX0_print_34 rfl (lv_at hl 0 rfl) ?_
    refine io_g_0_4 B Z dX0_print_35 ?_
    exact io_ret_i B Z hr hlk hw dX0_print_38
  · have hw := hw.2 k2
    refine lv_aload_n B.1 B.2.1 dX0_print_10 rfl (lv_at hl 0 rfl) ?_
    refine io_g_0_1 B Z dX0_print_11 ?_
    refine lv_aload_n B.1 B.2.1 dX0_print_14 rfl (lv_at hl 0 rfl) ?_
    refine io_g_0_4 B Z dX0_print_15 ?_
    refine lv_iload_n B.1 B.2.1 dX0_print_18 rfl (lv_at hl 1 rfl) ?_
    refine lv_sipush (v := 255) B.1 B.2.1 dX0_print_19 (by decide) ?_
    refine lv_iand B.1 B.2.1 dX0_print_22 ?_
    refine io_iast B Z 95 (by decide) io_e_95 hw.1 dX0_print_23 (fun s5 H locs e6 Z => ?_)
    have hw := hw.2 s5 e6
    refine lv_aload_n B.1 B.2.1 dX0_print_24 rfl (lv_at hl 0 rfl) ?_
    refine lv_dup B.1 B.2.1 dX0_print_25 rfl ?_
    refine io_g_0_4 B Z dX0_print_26 ?_
    refine lv_iconst (v := 1) B.1 B.2.1 dX0_print_29 (by decide) ?_
    refine lv_iadd B.1 B.2.1 dX0_print_30 ?_
    refine io_p_0_4 B Z dX0_print_31 (fun s7 H locs e8 Z => ?_)
    have hw := hw s7 e8
    refine lv_aload_n B.1 B.2.1 dX0_print_34 rfl (lv_at hl 0 rfl) ?_
    refine io_g_0_4 B Z dX0_print_35 ?_
    exact io_ret_i B Z hr hlk hw dX0_print_38
def wp_X4_entry (σ : io_M) (p1 : Int32) (post : Int32 → io_M → Prop) : Prop := (wp_X9_within σ p1 (if 300 < (σ 105 1) then 300 else (σ 105 1)) (fun r2 s3 => ((r2 = 0 → post (-1) s3) ∧ (¬ (r2 = 0) → (vp_in p1 300 ∧ post (s3 106 (p1).toNatClampNeg) s3)))))
set_option maxHeartbeats 4000000 in
set_option maxRecDepth 100000 in
theorem io_c_X4_entry (l : Launch) (D : va_G) (ca : Nat → ClassId) (ad : Nat → Nat) (A : Nat → Prop) (σ : io_M) (p1 : Int32) (post : Int32 → io_M → Prop) (hw : wp_X4_entry σ p1 post) : Met l yX4_entry (.code yX4_entry cX4_entry 2 (some .int) :: io_tb) (io_rm 1) (va_Pc [.ref (ad 105), .int p1] (io_W D ca ad A σ)) (va_Qi post (io_W D ca ad A) A) 0 0 A := by
  refine Met.ofW (cc := cX4_entry) (maxL := 2) (ret := (some .int)) (by decide) rfl ?_
  intro p e s m args below meth c s₁ Bd hml hv
  obtain ⟨rfl, hW0⟩ := hv
  have Z := io_Z.start hW0
  have B : CallFix p m c cX4_entry 2 s _ io_tb RX4 := ⟨Bd.exec, Bd.bytes, hml, findClass_of_methodNamed Bd.named, fun w hw => atoms_spec (ws := (.code yX4_entry cX4_entry 2 (some .int) :: io_tb)) Bd.pre w (List.mem_cons_of_mem _ hw)⟩
  have hr := Bd.returns
  have hlk := Bd.notSynchronized
  have hl := lv_entry ([.ref (ad 105), .int p1]) (n := 2) (Nat.le_of_ble_eq_true rfl)
  rw [lg_entry_eq]
  generalize (lg_sl ([.ref (ad 105), .int p1]) ++ List.replicate (2 - (lg_sl ([.ref (ad 105), .int p1])).length) Slot.unset).toArray = ls at hl ⊢
  have hl : lv_has ls 2 [(0, .ref (ad 105)), (1, .int p1)] := hl
  show W p l e (io_rm 1) s m _ below meth c s.heap [] 0 0 _ (F0 m 0 ls [])
  unfold wp_X4_entry at hw
  refine lv_iload_n B.1 B.2.1 dX4_entry_0 rfl (lv_at hl 1 rfl) ?_
  refine lv_aload_n B.1 B.2.1 dX4_entry_1 rfl (lv_at hl 0 rfl) ?_
  refine io_g_4_1 B Z dX4_entry_2 ?_
  refine lv_sipush (v := 300) B.1 B.2.1 dX4_entry_5 (by decide) ?_
  refine va_mmin B.1 B.2.1 (B.2.2.1.trans hl.1.symm) B.2.2.2.1 (B.2.2.2.2 _ (io_of 773 (by decide +kernel) (by decide +kernel))) (B.2.2.2.2 _ (io_of 551 (by decide +kernel) (by decide +kernel))) (B.2.2.2.2 _ (io_of 77 (by decide +kernel) (by decide +kernel))) (B.2.2.2.2 _ (io_of 552 (by decide +kernel) (by decide +kernel))) (by simp only [io_rm]; omega) (Nat.le_trans (m := 40) (Nat.le_of_ble_eq_true rfl) (by simp only [io_rm]; omega)) (Nat.le_refl _) (Nat.le_refl _) dX4_entry_8 ?_
  refine io_call_i Z (io_runN [.int p1, .int (if 300 < (σ 105 1) then 300 else (σ 105 1))] [] B Z (io_c_X9_within l D ca ad A _ p1 (if 300 < (σ 105 1) then 300 else (σ 105 1)) _ hw) io_k_4_25 (io_hR (by decide) (by decide)) rfl hl.1 (Nat.le_of_ble_eq_true rfl) dX4_entry_11 ⟨Nat.le_refl _, Nat.le_refl _⟩) (fun r2 s3 H locs hw Z => ?_)
  obtain ⟨b4, hw⟩ := hw
  refine lv_if_eq (tgt := 26) B.1 B.2.1 dX4_entry_14 (by decide) (fun k5 => ?_) (fun k5 => ?_)
  · have hw := hw.1 k5
    refine lv_iconst (v := (-1)) B.1 B.2.1 dX4_entry_26 (by decide) ?_
    exact io_ret_i B Z hr hlk hw dX4_entry_27
  · have hw := hw.2 k5
    refine lv_aload_n B.1 B.2.1 dX4_entry_17 rfl (lv_at hl 0 rfl) ?_
    refine io_g_4_0 B Z dX4_entry_18 ?_
    refine lv_iload_n B.1 B.2.1 dX4_entry_21 rfl (lv_at hl 1 rfl) ?_
    refine io_iald B Z 106 (by decide) io_e_106 hw.1 dX4_entry_22 ?_
    have hw := hw.2
    refine lv_goto (tgt := 27) B.1 B.2.1 dX4_entry_23 (by decide) ?_
    exact io_ret_i B Z hr hlk hw dX4_entry_27
def wp_X0_printedByte (σ : io_M) (p1 : Int32) (post : Int32 → io_M → Prop) : Prop := (wp_X9_within σ p1 (if 200 < (σ 93 4) then 200 else (σ 93 4)) (fun r2 s3 => ((r2 = 0 → post (-1) s3) ∧ (¬ (r2 = 0) → (vp_in p1 200 ∧ post (s3 95 (p1).toNatClampNeg) s3)))))
set_option maxHeartbeats 4000000 in
set_option maxRecDepth 100000 in
theorem io_c_X0_printedByte (l : Launch) (D : va_G) (ca : Nat → ClassId) (ad : Nat → Nat) (A : Nat → Prop) (σ : io_M) (p1 : Int32) (post : Int32 → io_M → Prop) (hw : wp_X0_printedByte σ p1 post) : Met l yX0_printedByte (.code yX0_printedByte cX0_printedByte 2 (some .int) :: io_tb) (io_rm 1) (va_Pc [.ref (ad 93), .int p1] (io_W D ca ad A σ)) (va_Qi post (io_W D ca ad A) A) 0 0 A := by
  refine Met.ofW (cc := cX0_printedByte) (maxL := 2) (ret := (some .int)) (by decide) rfl ?_
  intro p e s m args below meth c s₁ Bd hml hv
  obtain ⟨rfl, hW0⟩ := hv
  have Z := io_Z.start hW0
  have B : CallFix p m c cX0_printedByte 2 s _ io_tb RX0 := ⟨Bd.exec, Bd.bytes, hml, findClass_of_methodNamed Bd.named, fun w hw => atoms_spec (ws := (.code yX0_printedByte cX0_printedByte 2 (some .int) :: io_tb)) Bd.pre w (List.mem_cons_of_mem _ hw)⟩
  have hr := Bd.returns
  have hlk := Bd.notSynchronized
  have hl := lv_entry ([.ref (ad 93), .int p1]) (n := 2) (Nat.le_of_ble_eq_true rfl)
  rw [lg_entry_eq]
  generalize (lg_sl ([.ref (ad 93), .int p1]) ++ List.replicate (2 - (lg_sl ([.ref (ad 93), .int p1])).length) Slot.unset).toArray = ls at hl ⊢
  have hl : lv_has ls 2 [(0, .ref (ad 93)), (1, .int p1)] := hl
  show W p l e (io_rm 1) s m _ below meth c s.heap [] 0 0 _ (F0 m 0 ls [])
  unfold wp_X0_printedByte at hw
  refine lv_iload_n B.1 B.2.1 dX0_printedByte_0 rfl (lv_at hl 1 rfl) ?_
  refine lv_aload_n B.1 B.2.1 dX0_printedByte_1 rfl (lv_at hl 0 rfl) ?_
  refine io_g_0_4 B Z dX0_printedByte_2 ?_
  refine lv_sipush (v := 200) B.1 B.2.1 dX0_printedByte_5 (by decide) ?_
  refine va_mmin B.1 B.2.1 (B.2.2.1.trans hl.1.symm) B.2.2.2.1 (B.2.2.2.2 _ (io_of 801 (by decide +kernel) (by decide +kernel))) (B.2.2.2.2 _ (io_of 551 (by decide +kernel) (by decide +kernel))) (B.2.2.2.2 _ (io_of 77 (by decide +kernel) (by decide +kernel))) (B.2.2.2.2 _ (io_of 552 (by decide +kernel) (by decide +kernel))) (by simp only [io_rm]; omega) (Nat.le_trans (m := 40) (Nat.le_of_ble_eq_true rfl) (by simp only [io_rm]; omega)) (Nat.le_refl _) (Nat.le_refl _) dX0_printedByte_8 ?_
  refine io_call_i Z (io_runN [.int p1, .int (if 200 < (σ 93 4) then 200 else (σ 93 4))] [] B Z (io_c_X9_within l D ca ad A _ p1 (if 200 < (σ 93 4) then 200 else (σ 93 4)) _ hw) io_k_0_38 (io_hR (by decide) (by decide)) rfl hl.1 (Nat.le_of_ble_eq_true rfl) dX0_printedByte_11 ⟨Nat.le_refl _, Nat.le_refl _⟩) (fun r2 s3 H locs hw Z => ?_)
  obtain ⟨b4, hw⟩ := hw
  refine lv_if_eq (tgt := 26) B.1 B.2.1 dX0_printedByte_14 (by decide) (fun k5 => ?_) (fun k5 => ?_)
  · have hw := hw.1 k5
    refine lv_iconst (v := (-1)) B.1 B.2.1 dX0_printedByte_26 (by decide) ?_
    exact io_ret_i B Z hr hlk hw dX0_printedByte_27
  · have hw := hw.2 k5
    refine lv_aload_n B.1 B.2.1 dX0_printedByte_17 rfl (lv_at hl 0 rfl) ?_
    refine io_g_0_1 B Z dX0_printedByte_18 ?_
    refine lv_iload_n B.1 B.2.1 dX0_printedByte_21 rfl (lv_at hl 1 rfl) ?_
    refine io_iald B Z 95 (by decide) io_e_95 hw.1 dX0_printedByte_22 ?_
    have hw := hw.2
    refine lv_goto (tgt := 27) B.1 B.2.1 dX0_printedByte_23 (by decide) ?_
    exact io_ret_i B Z hr hlk hw dX0_printedByte_27
def wp_X0_printedCount (σ : io_M) (post : Int32 → io_M → Prop) : Prop := post (σ 93 4) σ
set_option maxHeartbeats 4000000 in
set_option maxRecDepth 100000 in
theorem io_c_X0_printedCount (l : Launch) (D : va_G) (ca : Nat → ClassId) (ad : Nat → Nat) (A : Nat → Prop) (σ : io_M) (post : Int32 → io_M → Prop) (hw : wp_X0_printedCount σ post) : Met l yX0_printedCount (.code yX0_printedCount cX0_printedCount 1 (some .int) :: io_tb) (io_rm 0) (va_Pc [.ref (ad 93)] (io_W D ca ad A σ)) (va_Qi post (io_W D ca ad A) A) 0 0 A := by
  refine Met.ofW (cc := cX0_printedCount) (maxL := 1) (ret := (some .int)) (by decide) rfl ?_
  intro p e s m args below meth c s₁ Bd hml hv
  obtain ⟨rfl, hW0⟩ := hv
  have Z := io_Z.start hW0
  have B : CallFix p m c cX0_printedCount 1 s _ io_tb RX0 := ⟨Bd.exec, Bd.bytes, hml, findClass_of_methodNamed Bd.named, fun w hw => atoms_spec (ws := (.code yX0_printedCount cX0_printedCount 1 (some .int) :: io_tb)) Bd.pre w (List.mem_cons_of_mem _ hw)⟩
  have hr := Bd.returns
  have hlk := Bd.notSynchronized
  have hl := lv_entry ([.ref (ad 93)]) (n := 1) (Nat.le_of_ble_eq_true rfl)
  rw [lg_entry_eq]
  generalize (lg_sl ([.ref (ad 93)]) ++ List.replicate (1 - (lg_sl ([.ref (ad 93)])).length) Slot.unset).toArray = ls at hl ⊢
  have hl : lv_has ls 1 [(0, .ref (ad 93))] := hl
  show W p l e (io_rm 0) s m _ below meth c s.heap [] 0 0 _ (F0 m 0 ls [])
  unfold wp_X0_printedCount at hw
  refine lv_aload_n B.1 B.2.1 dX0_printedCount_0 rfl (lv_at hl 0 rfl) ?_
  refine io_g_0_4 B Z dX0_printedCount_1 ?_
  exact io_ret_i B Z hr hlk hw dX0_printedCount_4
def wp_X4_count (σ : io_M) (post : Int32 → io_M → Prop) : Prop := post (σ 105 1) σ
set_option maxHeartbeats 4000000 in
set_option maxRecDepth 100000 in
theorem io_c_X4_count (l : Launch) (D : va_G) (ca : Nat → ClassId) (ad : Nat → Nat) (A : Nat → Prop) (σ : io_M) (post : Int32 → io_M → Prop) (hw : wp_X4_count σ post) : Met l yX4_count (.code yX4_count cX4_count 1 (some .int) :: io_tb) (io_rm 0) (va_Pc [.ref (ad 105)] (io_W D ca ad A σ)) (va_Qi post (io_W D ca ad A) A) 0 0 A := by
  refine Met.ofW (cc := cX4_count) (maxL := 1) (ret := (some .int)) (by decide) rfl ?_
  intro p e s m args below meth c s₁ Bd hml hv
  obtain ⟨rfl, hW0⟩ := hv
  have Z := io_Z.start hW0
  have B : CallFix p m c cX4_count 1 s _ io_tb RX4 := ⟨Bd.exec, Bd.bytes, hml, findClass_of_methodNamed Bd.named, fun w hw => atoms_spec (ws := (.code yX4_count cX4_count 1 (some .int) :: io_tb)) Bd.pre w (List.mem_cons_of_mem _ hw)⟩
  have hr := Bd.returns
  have hlk := Bd.notSynchronized
  have hl := lv_entry ([.ref (ad 105)]) (n := 1) (Nat.le_of_ble_eq_true rfl)
  rw [lg_entry_eq]
  generalize (lg_sl ([.ref (ad 105)]) ++ List.replicate (1 - (lg_sl ([.ref (ad 105)])).length) Slot.unset).toArray = ls at hl ⊢
  have hl : lv_has ls 1 [(0, .ref (ad 105))] := hl
  show W p l e (io_rm 0) s m _ below meth c s.heap [] 0 0 _ (F0 m 0 ls [])
  unfold wp_X4_count at hw
  refine lv_aload_n B.1 B.2.1 dX4_count_0 rfl (lv_at hl 0 rfl) ?_
  refine io_g_4_1 B Z dX4_count_1 ?_
  exact io_ret_i B Z hr hlk hw dX4_count_4
