def wp_X1_append (σ : io_M) (p1 : Int32) (p2 : Int32) (post : Int32 → io_M → Prop) : Prop := (vp_in p1 8 ∧ ((40 ≤ (σ 91 (p1).toNatClampNeg) → post 0 σ) ∧ (¬ (40 ≤ (σ 91 (p1).toNatClampNeg)) → (((σ 88 4) < 120 → (vp_in p1 8 ∧ (vp_in (σ 91 (p1).toNatClampNeg) 40 ∧ ∀ s5, s5 = io_up σ (80 + (p1).toNatClampNeg) ((σ 91 (p1).toNatClampNeg)).toNatClampNeg (p2) → (vp_in p1 8 ∧ ∀ s7, s7 = io_up s5 91 (p1).toNatClampNeg (((σ 91 (p1).toNatClampNeg) + 1)) → (∀ s9, s9 = io_up s7 88 4 ((s7 88 4) + 1) → (vp_in p1 8 ∧ ∀ s11, s11 = io_up s9 89 (p1).toNatClampNeg ((vp_nar .boolean 1)) → post 1 s11)))))) ∧ (¬ ((σ 88 4) < 120) → post 0 σ)))))
set_option maxHeartbeats 4000000 in
set_option maxRecDepth 100000 in
theorem io_c_X1_append (l : Launch) (D : va_G) (ca : Nat → ClassId) (ad : Nat → Nat) (A : Nat → Prop) (σ : io_M) (p1 : Int32) (p2 : Int32) (post : Int32 → io_M → Prop) (hw : wp_X1_append σ p1 p2 post) : Met l yX1_append (.code yX1_append cX1_append 4 (some .boolean) :: io_tb) (io_rm 0) (va_Pc [.ref (ad 88), .int p1, .int p2] (io_W D ca ad A σ)) (va_Qi (fun r u => io_bl r ∧ post r u) (io_W D ca ad A) A) 0 0 A := by
  refine Met.ofW (cc := cX1_append) (maxL := 4) (ret := (some .boolean)) (by decide) rfl ?_
  intro p e s m args below meth c s₁ Bd hml hv
  obtain ⟨rfl, hW0⟩ := hv
  have Z := io_Z.start hW0
  have B : CallFix p m c cX1_append 4 s _ io_tb RX1 := ⟨Bd.exec, Bd.bytes, hml, findClass_of_methodNamed Bd.named, fun w hw => atoms_spec (ws := (.code yX1_append cX1_append 4 (some .boolean) :: io_tb)) Bd.pre w (List.mem_cons_of_mem _ hw)⟩
  have hr := Bd.returns
  have hlk := Bd.notSynchronized
  have hl := lv_entry ([.ref (ad 88), .int p1, .int p2]) (n := 4) (Nat.le_of_ble_eq_true rfl)
  rw [lg_entry_eq]
  generalize (lg_sl ([.ref (ad 88), .int p1, .int p2]) ++ List.replicate (4 - (lg_sl ([.ref (ad 88), .int p1, .int p2])).length) Slot.unset).toArray = ls at hl ⊢
  have hl : lv_has ls 4 [(0, .ref (ad 88)), (1, .int p1), (2, .int p2)] := hl
  show W p l e (io_rm 0) s m _ below meth c s.heap [] 0 0 _ (F0 m 0 ls [])
  unfold wp_X1_append at hw
  refine lv_aload_n B.1 B.2.1 dX1_append_0 rfl (lv_at hl 0 rfl) ?_
  refine io_g_1_2 B Z dX1_append_1 ?_
  refine lv_iload_n B.1 B.2.1 dX1_append_4 rfl (lv_at hl 1 rfl) ?_
  refine io_iald B Z 91 (by decide) io_e_91 hw.1 dX1_append_5 ?_
  have hw := hw.2
  refine lv_istore_n (lv' := [(3, .int (σ 91 (p1).toNatClampNeg)), (0, .ref (ad 88)), (1, .int p1), (2, .int p2)]) B.1 B.2.1 dX1_append_6 rfl hl (by decide) rfl (fun ls hl => ?_)
  refine lv_iload_n B.1 B.2.1 dX1_append_7 rfl (lv_at hl 0 rfl) ?_
  refine lv_bipush (v := 40) B.1 B.2.1 dX1_append_8 (by decide) ?_
  refine lv_icmp_ge (tgt := 22) B.1 B.2.1 dX1_append_10 (by decide) (fun k2 => ?_) (fun k2 => ?_)
  · have hw := hw.1 k2
    refine lv_iconst (v := 0) B.1 B.2.1 dX1_append_22 (by decide) ?_
    exact io_ret_z B Z hr hlk (Or.inl rfl) hw dX1_append_23
  · have hw := hw.2 k2
    refine lv_aload_n B.1 B.2.1 dX1_append_13 rfl (lv_at hl 1 rfl) ?_
    refine io_g_1_4 B Z dX1_append_14 ?_
    refine lv_bipush (v := 120) B.1 B.2.1 dX1_append_17 (by decide) ?_
    refine lv_icmp_lt (tgt := 24) B.1 B.2.1 dX1_append_19 (by decide) (fun k3 => ?_) (fun k3 => ?_)
    · have hw := hw.1 k3
      refine lv_aload_n B.1 B.2.1 dX1_append_24 rfl (lv_at hl 1 rfl) ?_
      refine io_g_1_3 B Z dX1_append_25 ?_
      refine lv_iload_n B.1 B.2.1 dX1_append_28 rfl (lv_at hl 2 rfl) ?_
      have h4 := io_lt hw.1
      refine io_aldR B Z hw.1 dX1_append_29 ?_
      have hw := hw.2
      refine lv_iload_n B.1 B.2.1 dX1_append_30 rfl (lv_at hl 0 rfl) ?_
      refine lv_iload_n B.1 B.2.1 dX1_append_31 rfl (lv_at hl 3 rfl) ?_
      refine io_iast B Z (80 + (p1).toNatClampNeg) (by have := h4; omega) (io_eR h4) hw.1 dX1_append_32 (fun s5 H locs e6 Z => ?_)
      have hw := hw.2 s5 e6
      refine lv_aload_n B.1 B.2.1 dX1_append_33 rfl (lv_at hl 1 rfl) ?_
      refine io_g_1_2 B Z dX1_append_34 ?_
      refine lv_iload_n B.1 B.2.1 dX1_append_37 rfl (lv_at hl 2 rfl) ?_
      refine lv_iload_n B.1 B.2.1 dX1_append_38 rfl (lv_at hl 0 rfl) ?_
      refine lv_iconst (v := 1) B.1 B.2.1 dX1_append_39 (by decide) ?_
      refine lv_iadd B.1 B.2.1 dX1_append_40 ?_
      refine io_iast B Z 91 (by decide) io_e_91 hw.1 dX1_append_41 (fun s7 H locs e8 Z => ?_)
      have hw := hw.2 s7 e8
      refine lv_aload_n B.1 B.2.1 dX1_append_42 rfl (lv_at hl 1 rfl) ?_
      refine lv_dup B.1 B.2.1 dX1_append_43 rfl ?_
      refine io_g_1_4 B Z dX1_append_44 ?_
      refine lv_iconst (v := 1) B.1 B.2.1 dX1_append_47 (by decide) ?_
      refine lv_iadd B.1 B.2.1 dX1_append_48 ?_
      refine io_p_1_4 B Z dX1_append_49 (fun s9 H locs e10 Z => ?_)
      have hw := hw s9 e10
      refine lv_aload_n B.1 B.2.1 dX1_append_52 rfl (lv_at hl 1 rfl) ?_
      refine io_g_1_0 B Z dX1_append_53 ?_
      refine lv_iload_n B.1 B.2.1 dX1_append_56 rfl (lv_at hl 2 rfl) ?_
      refine lv_iconst (v := 1) B.1 B.2.1 dX1_append_57 (by decide) ?_
      refine io_zast B Z 89 (by decide) io_e_89 hw.1 dX1_append_58 (fun s11 H locs e12 Z => ?_)
      have hw := hw.2 s11 e12
      refine lv_iconst (v := 1) B.1 B.2.1 dX1_append_59 (by decide) ?_
      exact io_ret_z B Z hr hlk (Or.inr rfl) hw dX1_append_60
    · have hw := hw.2 k3
      refine lv_iconst (v := 0) B.1 B.2.1 dX1_append_22 (by decide) ?_
      exact io_ret_z B Z hr hlk (Or.inl rfl) hw dX1_append_23
def wp_X1_lengthOf (σ : io_M) (p1 : Int32) (post : Int32 → io_M → Prop) : Prop := (vp_in p1 8 ∧ post (σ 91 (p1).toNatClampNeg) σ)
set_option maxHeartbeats 4000000 in
set_option maxRecDepth 100000 in
theorem io_c_X1_lengthOf (l : Launch) (D : va_G) (ca : Nat → ClassId) (ad : Nat → Nat) (A : Nat → Prop) (σ : io_M) (p1 : Int32) (post : Int32 → io_M → Prop) (hw : wp_X1_lengthOf σ p1 post) : Met l yX1_lengthOf (.code yX1_lengthOf cX1_lengthOf 2 (some .int) :: io_tb) (io_rm 0) (va_Pc [.ref (ad 88), .int p1] (io_W D ca ad A σ)) (va_Qi post (io_W D ca ad A) A) 0 0 A := by
  refine Met.ofW (cc := cX1_lengthOf) (maxL := 2) (ret := (some .int)) (by decide) rfl ?_
  intro p e s m args below meth c s₁ Bd hml hv
  obtain ⟨rfl, hW0⟩ := hv
  have Z := io_Z.start hW0
  have B : CallFix p m c cX1_lengthOf 2 s _ io_tb RX1 := ⟨Bd.exec, Bd.bytes, hml, findClass_of_methodNamed Bd.named, fun w hw => atoms_spec (ws := (.code yX1_lengthOf cX1_lengthOf 2 (some .int) :: io_tb)) Bd.pre w (List.mem_cons_of_mem _ hw)⟩
  have hr := Bd.returns
  have hlk := Bd.notSynchronized
  have hl := lv_entry ([.ref (ad 88), .int p1]) (n := 2) (Nat.le_of_ble_eq_true rfl)
  rw [lg_entry_eq]
  generalize (lg_sl ([.ref (ad 88), .int p1]) ++ List.replicate (2 - (lg_sl ([.ref (ad 88), .int p1])).length) Slot.unset).toArray = ls at hl ⊢
  have hl : lv_has ls 2 [(0, .ref (ad 88)), (1, .int p1)] := hl
  show W p l e (io_rm 0) s m _ below meth c s.heap [] 0 0 _ (F0 m 0 ls [])
  unfold wp_X1_lengthOf at hw
  refine lv_aload_n B.1 B.2.1 dX1_lengthOf_0 rfl (lv_at hl 0 rfl) ?_
  refine io_g_1_2 B Z dX1_lengthOf_1 ?_
  refine lv_iload_n B.1 B.2.1 dX1_lengthOf_4 rfl (lv_at hl 1 rfl) ?_
  refine io_iald B Z 91 (by decide) io_e_91 hw.1 dX1_lengthOf_5 ?_
  have hw := hw.2
  exact io_ret_i B Z hr hlk hw dX1_lengthOf_6
def wp_X1_create (σ : io_M) (p1 : Int32) (post : io_M → Prop) : Prop := (vp_in p1 8 ∧ ∀ s2, s2 = io_up σ 89 (p1).toNatClampNeg ((vp_nar .boolean 1)) → post s2)
set_option maxHeartbeats 4000000 in
set_option maxRecDepth 100000 in
theorem io_c_X1_create (l : Launch) (D : va_G) (ca : Nat → ClassId) (ad : Nat → Nat) (A : Nat → Prop) (σ : io_M) (p1 : Int32) (post : io_M → Prop) (hw : wp_X1_create σ p1 post) : Met l yX1_create (.code yX1_create cX1_create 2 none :: io_tb) (io_rm 0) (va_Pc [.ref (ad 88), .int p1] (io_W D ca ad A σ)) (va_Qv post (io_W D ca ad A) A) 0 0 A := by
  refine Met.ofW (cc := cX1_create) (maxL := 2) (ret := none) (by decide) rfl ?_
  intro p e s m args below meth c s₁ Bd hml hv
  obtain ⟨rfl, hW0⟩ := hv
  have Z := io_Z.start hW0
  have B : CallFix p m c cX1_create 2 s _ io_tb RX1 := ⟨Bd.exec, Bd.bytes, hml, findClass_of_methodNamed Bd.named, fun w hw => atoms_spec (ws := (.code yX1_create cX1_create 2 none :: io_tb)) Bd.pre w (List.mem_cons_of_mem _ hw)⟩
  have hr := Bd.returns
  have hlk := Bd.notSynchronized
  have hl := lv_entry ([.ref (ad 88), .int p1]) (n := 2) (Nat.le_of_ble_eq_true rfl)
  rw [lg_entry_eq]
  generalize (lg_sl ([.ref (ad 88), .int p1]) ++ List.replicate (2 - (lg_sl ([.ref (ad 88), .int p1])).length) Slot.unset).toArray = ls at hl ⊢
  have hl : lv_has ls 2 [(0, .ref (ad 88)), (1, .int p1)] := hl
  show W p l e (io_rm 0) s m _ below meth c s.heap [] 0 0 _ (F0 m 0 ls [])
  unfold wp_X1_create at hw
  refine lv_aload_n B.1 B.2.1 dX1_create_0 rfl (lv_at hl 0 rfl) ?_
  refine io_g_1_0 B Z dX1_create_1 ?_
  refine lv_iload_n B.1 B.2.1 dX1_create_4 rfl (lv_at hl 1 rfl) ?_
  refine lv_iconst (v := 1) B.1 B.2.1 dX1_create_5 (by decide) ?_
  refine io_zast B Z 89 (by decide) io_e_89 hw.1 dX1_create_6 (fun s2 H locs e3 Z => ?_)
  have hw := hw.2 s2 e3
  exact io_ret_v B Z hr hlk hw dX1_create_7
def wp_X1_isThere (σ : io_M) (p1 : Int32) (post : Int32 → io_M → Prop) : Prop := (vp_in p1 8 ∧ (io_bl (σ 89 (p1).toNatClampNeg) ∧ post (σ 89 (p1).toNatClampNeg) σ))
set_option maxHeartbeats 4000000 in
set_option maxRecDepth 100000 in
theorem io_c_X1_isThere (l : Launch) (D : va_G) (ca : Nat → ClassId) (ad : Nat → Nat) (A : Nat → Prop) (σ : io_M) (p1 : Int32) (post : Int32 → io_M → Prop) (hw : wp_X1_isThere σ p1 post) : Met l yX1_isThere (.code yX1_isThere cX1_isThere 2 (some .boolean) :: io_tb) (io_rm 0) (va_Pc [.ref (ad 88), .int p1] (io_W D ca ad A σ)) (va_Qi (fun r u => io_bl r ∧ post r u) (io_W D ca ad A) A) 0 0 A := by
  refine Met.ofW (cc := cX1_isThere) (maxL := 2) (ret := (some .boolean)) (by decide) rfl ?_
  intro p e s m args below meth c s₁ Bd hml hv
  obtain ⟨rfl, hW0⟩ := hv
  have Z := io_Z.start hW0
  have B : CallFix p m c cX1_isThere 2 s _ io_tb RX1 := ⟨Bd.exec, Bd.bytes, hml, findClass_of_methodNamed Bd.named, fun w hw => atoms_spec (ws := (.code yX1_isThere cX1_isThere 2 (some .boolean) :: io_tb)) Bd.pre w (List.mem_cons_of_mem _ hw)⟩
  have hr := Bd.returns
  have hlk := Bd.notSynchronized
  have hl := lv_entry ([.ref (ad 88), .int p1]) (n := 2) (Nat.le_of_ble_eq_true rfl)
  rw [lg_entry_eq]
  generalize (lg_sl ([.ref (ad 88), .int p1]) ++ List.replicate (2 - (lg_sl ([.ref (ad 88), .int p1])).length) Slot.unset).toArray = ls at hl ⊢
  have hl : lv_has ls 2 [(0, .ref (ad 88)), (1, .int p1)] := hl
  show W p l e (io_rm 0) s m _ below meth c s.heap [] 0 0 _ (F0 m 0 ls [])
  unfold wp_X1_isThere at hw
  refine lv_aload_n B.1 B.2.1 dX1_isThere_0 rfl (lv_at hl 0 rfl) ?_
  refine io_g_1_0 B Z dX1_isThere_1 ?_
  refine lv_iload_n B.1 B.2.1 dX1_isThere_4 rfl (lv_at hl 1 rfl) ?_
  refine io_zald B Z 89 (by decide) io_e_89 hw.1 dX1_isThere_5 ?_
  have hw := hw.2
  exact io_ret_z B Z hr hlk hw.1 hw.2 dX1_isThere_6
def wp_X1_makeEmpty (σ : io_M) (p1 : Int32) (post : io_M → Prop) : Prop := (vp_in p1 8 ∧ (∀ s2, s2 = io_up σ 88 4 ((σ 88 4) - (σ 91 (p1).toNatClampNeg)) → (vp_in p1 8 ∧ ∀ s4, s4 = io_up s2 91 (p1).toNatClampNeg (0) → post s4)))
set_option maxHeartbeats 4000000 in
set_option maxRecDepth 100000 in
theorem io_c_X1_makeEmpty (l : Launch) (D : va_G) (ca : Nat → ClassId) (ad : Nat → Nat) (A : Nat → Prop) (σ : io_M) (p1 : Int32) (post : io_M → Prop) (hw : wp_X1_makeEmpty σ p1 post) : Met l yX1_makeEmpty (.code yX1_makeEmpty cX1_makeEmpty 2 none :: io_tb) (io_rm 0) (va_Pc [.ref (ad 88), .int p1] (io_W D ca ad A σ)) (va_Qv post (io_W D ca ad A) A) 0 0 A := by
  refine Met.ofW (cc := cX1_makeEmpty) (maxL := 2) (ret := none) (by decide) rfl ?_
  intro p e s m args below meth c s₁ Bd hml hv
  obtain ⟨rfl, hW0⟩ := hv
  have Z := io_Z.start hW0
  have B : CallFix p m c cX1_makeEmpty 2 s _ io_tb RX1 := ⟨Bd.exec, Bd.bytes, hml, findClass_of_methodNamed Bd.named, fun w hw => atoms_spec (ws := (.code yX1_makeEmpty cX1_makeEmpty 2 none :: io_tb)) Bd.pre w (List.mem_cons_of_mem _ hw)⟩
  have hr := Bd.returns
  have hlk := Bd.notSynchronized
  have hl := lv_entry ([.ref (ad 88), .int p1]) (n := 2) (Nat.le_of_ble_eq_true rfl)
  rw [lg_entry_eq]
  generalize (lg_sl ([.ref (ad 88), .int p1]) ++ List.replicate (2 - (lg_sl ([.ref (ad 88), .int p1])).length) Slot.unset).toArray = ls at hl ⊢
  have hl : lv_has ls 2 [(0, .ref (ad 88)), (1, .int p1)] := hl
  show W p l e (io_rm 0) s m _ below meth c s.heap [] 0 0 _ (F0 m 0 ls [])
  unfold wp_X1_makeEmpty at hw
  refine lv_aload_n B.1 B.2.1 dX1_makeEmpty_0 rfl (lv_at hl 0 rfl) ?_
  refine lv_dup B.1 B.2.1 dX1_makeEmpty_1 rfl ?_
  refine io_g_1_4 B Z dX1_makeEmpty_2 ?_
  refine lv_aload_n B.1 B.2.1 dX1_makeEmpty_5 rfl (lv_at hl 0 rfl) ?_
  refine io_g_1_2 B Z dX1_makeEmpty_6 ?_
  refine lv_iload_n B.1 B.2.1 dX1_makeEmpty_9 rfl (lv_at hl 1 rfl) ?_
  refine io_iald B Z 91 (by decide) io_e_91 hw.1 dX1_makeEmpty_10 ?_
  have hw := hw.2
  refine lv_isub B.1 B.2.1 dX1_makeEmpty_11 ?_
  refine io_p_1_4 B Z dX1_makeEmpty_12 (fun s2 H locs e3 Z => ?_)
  have hw := hw s2 e3
  refine lv_aload_n B.1 B.2.1 dX1_makeEmpty_15 rfl (lv_at hl 0 rfl) ?_
  refine io_g_1_2 B Z dX1_makeEmpty_16 ?_
  refine lv_iload_n B.1 B.2.1 dX1_makeEmpty_19 rfl (lv_at hl 1 rfl) ?_
  refine lv_iconst (v := 0) B.1 B.2.1 dX1_makeEmpty_20 (by decide) ?_
  refine io_iast B Z 91 (by decide) io_e_91 hw.1 dX1_makeEmpty_21 (fun s4 H locs e5 Z => ?_)
  have hw := hw.2 s4 e5
  exact io_ret_v B Z hr hlk hw dX1_makeEmpty_22
def wp_X1_remove (σ : io_M) (p1 : Int32) (post : io_M → Prop) : Prop := (wp_X1_makeEmpty σ p1 (fun s3 => (vp_in p1 8 ∧ ∀ s4, s4 = io_up s3 89 (p1).toNatClampNeg ((vp_nar .boolean 0)) → post s4)))
set_option maxHeartbeats 4000000 in
set_option maxRecDepth 100000 in
theorem io_c_X1_remove (l : Launch) (D : va_G) (ca : Nat → ClassId) (ad : Nat → Nat) (A : Nat → Prop) (σ : io_M) (p1 : Int32) (post : io_M → Prop) (hw : wp_X1_remove σ p1 post) : Met l yX1_remove (.code yX1_remove cX1_remove 2 none :: io_tb) (io_rm 1) (va_Pc [.ref (ad 88), .int p1] (io_W D ca ad A σ)) (va_Qv post (io_W D ca ad A) A) 0 0 A := by
  refine Met.ofW (cc := cX1_remove) (maxL := 2) (ret := none) (by decide) rfl ?_
  intro p e s m args below meth c s₁ Bd hml hv
  obtain ⟨rfl, hW0⟩ := hv
  have Z := io_Z.start hW0
  have B : CallFix p m c cX1_remove 2 s _ io_tb RX1 := ⟨Bd.exec, Bd.bytes, hml, findClass_of_methodNamed Bd.named, fun w hw => atoms_spec (ws := (.code yX1_remove cX1_remove 2 none :: io_tb)) Bd.pre w (List.mem_cons_of_mem _ hw)⟩
  have hr := Bd.returns
  have hlk := Bd.notSynchronized
  have hl := lv_entry ([.ref (ad 88), .int p1]) (n := 2) (Nat.le_of_ble_eq_true rfl)
  rw [lg_entry_eq]
  generalize (lg_sl ([.ref (ad 88), .int p1]) ++ List.replicate (2 - (lg_sl ([.ref (ad 88), .int p1])).length) Slot.unset).toArray = ls at hl ⊢
  have hl : lv_has ls 2 [(0, .ref (ad 88)), (1, .int p1)] := hl
  show W p l e (io_rm 1) s m _ below meth c s.heap [] 0 0 _ (F0 m 0 ls [])
  unfold wp_X1_remove at hw
  refine lv_aload_n B.1 B.2.1 dX1_remove_0 rfl (lv_at hl 0 rfl) ?_
  refine lv_iload_n B.1 B.2.1 dX1_remove_1 rfl (lv_at hl 1 rfl) ?_
  refine io_call_v Z (io_runV (ci := 1) (k := 88) [.int p1] [] B Z (io_c_X1_makeEmpty l D ca ad A _ p1 _ hw) io_k_1_37 (io_hR (by decide) (by decide)) rfl (by decide) (io_e_88 _) rfl hl.1 (Nat.le_of_ble_eq_true rfl) dX1_remove_2 ⟨Nat.le_refl _, Nat.le_refl _⟩) (fun s3 H locs hw Z => ?_)
  refine lv_aload_n B.1 B.2.1 dX1_remove_5 rfl (lv_at hl 0 rfl) ?_
  refine io_g_1_0 B Z dX1_remove_6 ?_
  refine lv_iload_n B.1 B.2.1 dX1_remove_9 rfl (lv_at hl 1 rfl) ?_
  refine lv_iconst (v := 0) B.1 B.2.1 dX1_remove_10 (by decide) ?_
  refine io_zast B Z 89 (by decide) io_e_89 hw.1 dX1_remove_11 (fun s4 H locs e5 Z => ?_)
  have hw := hw.2 s4 e5
  exact io_ret_v B Z hr hlk hw dX1_remove_12
def wp_X1_changePermits (σ : io_M) (p1 : Int32) (p2 : Int32) (post : Int32 → io_M → Prop) : Prop := (vp_in p1 8 ∧ (vp_in p1 8 ∧ ∀ s2, s2 = io_up σ 90 (p1).toNatClampNeg (p2) → post (σ 90 (p1).toNatClampNeg) s2))
set_option maxHeartbeats 4000000 in
set_option maxRecDepth 100000 in
theorem io_c_X1_changePermits (l : Launch) (D : va_G) (ca : Nat → ClassId) (ad : Nat → Nat) (A : Nat → Prop) (σ : io_M) (p1 : Int32) (p2 : Int32) (post : Int32 → io_M → Prop) (hw : wp_X1_changePermits σ p1 p2 post) : Met l yX1_changePermits (.code yX1_changePermits cX1_changePermits 4 (some .int) :: io_tb) (io_rm 0) (va_Pc [.ref (ad 88), .int p1, .int p2] (io_W D ca ad A σ)) (va_Qi post (io_W D ca ad A) A) 0 0 A := by
  refine Met.ofW (cc := cX1_changePermits) (maxL := 4) (ret := (some .int)) (by decide) rfl ?_
  intro p e s m args below meth c s₁ Bd hml hv
  obtain ⟨rfl, hW0⟩ := hv
  have Z := io_Z.start hW0
  have B : CallFix p m c cX1_changePermits 4 s _ io_tb RX1 := ⟨Bd.exec, Bd.bytes, hml, findClass_of_methodNamed Bd.named, fun w hw => atoms_spec (ws := (.code yX1_changePermits cX1_changePermits 4 (some .int) :: io_tb)) Bd.pre w (List.mem_cons_of_mem _ hw)⟩
  have hr := Bd.returns
  have hlk := Bd.notSynchronized
  have hl := lv_entry ([.ref (ad 88), .int p1, .int p2]) (n := 4) (Nat.le_of_ble_eq_true rfl)
  rw [lg_entry_eq]
  generalize (lg_sl ([.ref (ad 88), .int p1, .int p2]) ++ List.replicate (4 - (lg_sl ([.ref (ad 88), .int p1, .int p2])).length) Slot.unset).toArray = ls at hl ⊢
  have hl : lv_has ls 4 [(0, .ref (ad 88)), (1, .int p1), (2, .int p2)] := hl
  show W p l e (io_rm 0) s m _ below meth c s.heap [] 0 0 _ (F0 m 0 ls [])
  unfold wp_X1_changePermits at hw
  refine lv_aload_n B.1 B.2.1 dX1_changePermits_0 rfl (lv_at hl 0 rfl) ?_
  refine io_g_1_1 B Z dX1_changePermits_1 ?_
  refine lv_iload_n B.1 B.2.1 dX1_changePermits_4 rfl (lv_at hl 1 rfl) ?_
  refine io_iald B Z 90 (by decide) io_e_90 hw.1 dX1_changePermits_5 ?_
  have hw := hw.2
  refine lv_istore_n (lv' := [(3, .int (σ 90 (p1).toNatClampNeg)), (0, .ref (ad 88)), (1, .int p1), (2, .int p2)]) B.1 B.2.1 dX1_changePermits_6 rfl hl (by decide) rfl (fun ls hl => ?_)
  refine lv_aload_n B.1 B.2.1 dX1_changePermits_7 rfl (lv_at hl 1 rfl) ?_
  refine io_g_1_1 B Z dX1_changePermits_8 ?_
  refine lv_iload_n B.1 B.2.1 dX1_changePermits_11 rfl (lv_at hl 2 rfl) ?_
  refine lv_iload_n B.1 B.2.1 dX1_changePermits_12 rfl (lv_at hl 3 rfl) ?_
  refine io_iast B Z 90 (by decide) io_e_90 hw.1 dX1_changePermits_13 (fun s2 H locs e3 Z => ?_)
  have hw := hw.2 s2 e3
  refine lv_iload_n B.1 B.2.1 dX1_changePermits_14 rfl (lv_at hl 0 rfl) ?_
  exact io_ret_i B Z hr hlk hw dX1_changePermits_15
def wp_X1_write (σ : io_M) (p1 : Int32) (p2 : Int32) (p3 : Int32) (post : Int32 → io_M → Prop) : Prop := (vp_in p1 8 ∧ (wp_X9_within σ p2 (σ 91 (p1).toNatClampNeg) (fun r2 s3 => ((r2 = 0 → (wp_X1_append s3 p1 p3 (fun r9 s10 => post r9 s10))) ∧ (¬ (r2 = 0) → (vp_in p1 8 ∧ (vp_in p2 40 ∧ ∀ s7, s7 = io_up s3 (80 + (p1).toNatClampNeg) (p2).toNatClampNeg (p3) → post 1 s7)))))))
set_option maxHeartbeats 4000000 in
set_option maxRecDepth 100000 in
theorem io_c_X1_write (l : Launch) (D : va_G) (ca : Nat → ClassId) (ad : Nat → Nat) (A : Nat → Prop) (σ : io_M) (p1 : Int32) (p2 : Int32) (p3 : Int32) (post : Int32 → io_M → Prop) (hw : wp_X1_write σ p1 p2 p3 post) : Met l yX1_write (.code yX1_write cX1_write 4 (some .boolean) :: io_tb) (io_rm 1) (va_Pc [.ref (ad 88), .int p1, .int p2, .int p3] (io_W D ca ad A σ)) (va_Qi (fun r u => io_bl r ∧ post r u) (io_W D ca ad A) A) 0 0 A := by
  refine Met.ofW (cc := cX1_write) (maxL := 4) (ret := (some .boolean)) (by decide) rfl ?_
  intro p e s m args below meth c s₁ Bd hml hv
  obtain ⟨rfl, hW0⟩ := hv
  have Z := io_Z.start hW0
  have B : CallFix p m c cX1_write 4 s _ io_tb RX1 := ⟨Bd.exec, Bd.bytes, hml, findClass_of_methodNamed Bd.named, fun w hw => atoms_spec (ws := (.code yX1_write cX1_write 4 (some .boolean) :: io_tb)) Bd.pre w (List.mem_cons_of_mem _ hw)⟩
  have hr := Bd.returns
  have hlk := Bd.notSynchronized
  have hl := lv_entry ([.ref (ad 88), .int p1, .int p2, .int p3]) (n := 4) (Nat.le_of_ble_eq_true rfl)
  rw [lg_entry_eq]
  generalize (lg_sl ([.ref (ad 88), .int p1, .int p2, .int p3]) ++ List.replicate (4 - (lg_sl ([.ref (ad 88), .int p1, .int p2, .int p3])).length) Slot.unset).toArray = ls at hl ⊢
  have hl : lv_has ls 4 [(0, .ref (ad 88)), (1, .int p1), (2, .int p2), (3, .int p3)] := hl
  show W p l e (io_rm 1) s m _ below meth c s.heap [] 0 0 _ (F0 m 0 ls [])
  unfold wp_X1_write at hw
  refine lv_iload_n B.1 B.2.1 dX1_write_0 rfl (lv_at hl 2 rfl) ?_
  refine lv_aload_n B.1 B.2.1 dX1_write_1 rfl (lv_at hl 0 rfl) ?_
  refine io_g_1_2 B Z dX1_write_2 ?_
  refine lv_iload_n B.1 B.2.1 dX1_write_5 rfl (lv_at hl 1 rfl) ?_
  refine io_iald B Z 91 (by decide) io_e_91 hw.1 dX1_write_6 ?_
  have hw := hw.2
  refine io_call_i Z (io_runN [.int p2, .int (σ 91 (p1).toNatClampNeg)] [] B Z (io_c_X9_within l D ca ad A _ p2 (σ 91 (p1).toNatClampNeg) _ hw) io_k_1_41 (io_hR (by decide) (by decide)) rfl hl.1 (Nat.le_of_ble_eq_true rfl) dX1_write_7 ⟨Nat.le_refl _, Nat.le_refl _⟩) (fun r2 s3 H locs hw Z => ?_)
  obtain ⟨b4, hw⟩ := hw
  refine lv_if_ne (tgt := 20) B.1 B.2.1 dX1_write_10 (by decide) (fun k5 => ?_) (fun k5 => ?_)
  · have hw := hw.2 k5
    refine lv_aload_n B.1 B.2.1 dX1_write_20 rfl (lv_at hl 0 rfl) ?_
    refine io_g_1_3 B Z dX1_write_21 ?_
    refine lv_iload_n B.1 B.2.1 dX1_write_24 rfl (lv_at hl 1 rfl) ?_
    have h6 := io_lt hw.1
    refine io_aldR B Z hw.1 dX1_write_25 ?_
    have hw := hw.2
    refine lv_iload_n B.1 B.2.1 dX1_write_26 rfl (lv_at hl 2 rfl) ?_
    refine lv_iload_n B.1 B.2.1 dX1_write_27 rfl (lv_at hl 3 rfl) ?_
    refine io_iast B Z (80 + (p1).toNatClampNeg) (by have := h6; omega) (io_eR h6) hw.1 dX1_write_28 (fun s7 H locs e8 Z => ?_)
    have hw := hw.2 s7 e8
    refine lv_iconst (v := 1) B.1 B.2.1 dX1_write_29 (by decide) ?_
    exact io_ret_z B Z hr hlk (Or.inr rfl) hw dX1_write_30
  · have hw := hw.1 k5
    refine lv_aload_n B.1 B.2.1 dX1_write_13 rfl (lv_at hl 0 rfl) ?_
    refine lv_iload_n B.1 B.2.1 dX1_write_14 rfl (lv_at hl 1 rfl) ?_
    refine lv_iload_n B.1 B.2.1 dX1_write_15 rfl (lv_at hl 3 rfl) ?_
    refine io_call_i Z (io_runV (ci := 1) (k := 88) [.int p1, .int p3] [] B Z (io_c_X1_append l D ca ad A _ p1 p3 _ hw) io_k_1_45 (io_hR (by decide) (by decide)) rfl (by decide) (io_e_88 _) rfl hl.1 (Nat.le_of_ble_eq_true rfl) dX1_write_16 ⟨Nat.le_refl _, Nat.le_refl _⟩) (fun r9 s10 H locs hw Z => ?_)
    obtain ⟨b11, hw⟩ := hw
    exact io_ret_z B Z hr hlk b11 hw dX1_write_19
def wp_X1_grants (σ : io_M) (p1 : Int32) (p2 : Int32) (post : Int32 → io_M → Prop) : Prop := (vp_in p1 8 ∧ ((((σ 90 (p1).toNatClampNeg) &&& p2) = 0 → post 0 σ) ∧ (¬ (((σ 90 (p1).toNatClampNeg) &&& p2) = 0) → post 1 σ)))
set_option maxHeartbeats 4000000 in
set_option maxRecDepth 100000 in
theorem io_c_X1_grants (l : Launch) (D : va_G) (ca : Nat → ClassId) (ad : Nat → Nat) (A : Nat → Prop) (σ : io_M) (p1 : Int32) (p2 : Int32) (post : Int32 → io_M → Prop) (hw : wp_X1_grants σ p1 p2 post) : Met l yX1_grants (.code yX1_grants cX1_grants 3 (some .boolean) :: io_tb) (io_rm 0) (va_Pc [.ref (ad 88), .int p1, .int p2] (io_W D ca ad A σ)) (va_Qi (fun r u => io_bl r ∧ post r u) (io_W D ca ad A) A) 0 0 A := by
  refine Met.ofW (cc := cX1_grants) (maxL := 3) (ret := (some .boolean)) (by decide) rfl ?_
  intro p e s m args below meth c s₁ Bd hml hv
  obtain ⟨rfl, hW0⟩ := hv
  have Z := io_Z.start hW0
  have B : CallFix p m c cX1_grants 3 s _ io_tb RX1 := ⟨Bd.exec, Bd.bytes, hml, findClass_of_methodNamed Bd.named, fun w hw => atoms_spec (ws := (.code yX1_grants cX1_grants 3 (some .boolean) :: io_tb)) Bd.pre w (List.mem_cons_of_mem _ hw)⟩
  have hr := Bd.returns
  have hlk := Bd.notSynchronized
  have hl := lv_entry ([.ref (ad 88), .int p1, .int p2]) (n := 3) (Nat.le_of_ble_eq_true rfl)
  rw [lg_entry_eq]
  generalize (lg_sl ([.ref (ad 88), .int p1, .int p2]) ++ List.replicate (3 - (lg_sl ([.ref (ad 88), .int p1, .int p2])).length) Slot.unset).toArray = ls at hl ⊢
  have hl : lv_has ls 3 [(0, .ref (ad 88)), (1, .int p1), (2, .int p2)] := hl
  show W p l e (io_rm 0) s m _ below meth c s.heap [] 0 0 _ (F0 m 0 ls [])
  unfold wp_X1_grants at hw
  refine lv_aload_n B.1 B.2.1 dX1_grants_0 rfl (lv_at hl 0 rfl) ?_
  refine io_g_1_1 B Z dX1_grants_1 ?_
  refine lv_iload_n B.1 B.2.1 dX1_grants_4 rfl (lv_at hl 1 rfl) ?_
  refine io_iald B Z 90 (by decide) io_e_90 hw.1 dX1_grants_5 ?_
  have hw := hw.2
  refine lv_iload_n B.1 B.2.1 dX1_grants_6 rfl (lv_at hl 2 rfl) ?_
  refine lv_iand B.1 B.2.1 dX1_grants_7 ?_
  refine lv_if_eq (tgt := 15) B.1 B.2.1 dX1_grants_8 (by decide) (fun k2 => ?_) (fun k2 => ?_)
  · have hw := hw.1 k2
    refine lv_iconst (v := 0) B.1 B.2.1 dX1_grants_15 (by decide) ?_
    exact io_ret_z B Z hr hlk (Or.inl rfl) hw dX1_grants_16
  · have hw := hw.2 k2
    refine lv_iconst (v := 1) B.1 B.2.1 dX1_grants_11 (by decide) ?_
    refine lv_goto (tgt := 16) B.1 B.2.1 dX1_grants_12 (by decide) ?_
    exact io_ret_z B Z hr hlk (Or.inr rfl) hw dX1_grants_16
def wp_X1_move (σ : io_M) (p1 : Int32) (p2 : Int32) (post : io_M → Prop) : Prop := (vp_in p2 8 ∧ (∀ s2, s2 = io_up σ 88 4 ((σ 88 4) - (σ 91 (p2).toNatClampNeg)) → (vp_in p1 8 ∧ (vp_in p2 8 ∧ (vp_in p1 8 ∧ (¬ ((s2 91 (p1).toNatClampNeg) < 0) ∧ ((s2 91 (p1).toNatClampNeg)).toNatClampNeg ≤ 40 ∧ ∀ s6, s6 = va_up s2 (80 + (p2).toNatClampNeg) (va_cpy (s2 (80 + (p1).toNatClampNeg)) (s2 (80 + (p2).toNatClampNeg)) 0 0 ((s2 91 (p1).toNatClampNeg)).toNatClampNeg) → (vp_in p1 8 ∧ (vp_in p2 8 ∧ ∀ s8, s8 = io_up s6 91 (p2).toNatClampNeg ((s6 91 (p1).toNatClampNeg)) → (vp_in p2 8 ∧ ∀ s10, s10 = io_up s8 89 (p2).toNatClampNeg ((vp_nar .boolean 1)) → (vp_in p1 8 ∧ ∀ s12, s12 = io_up s10 91 (p1).toNatClampNeg (0) → (vp_in p1 8 ∧ ∀ s14, s14 = io_up s12 89 (p1).toNatClampNeg ((vp_nar .boolean 0)) → post s14)))))))))))
set_option maxHeartbeats 4000000 in
set_option maxRecDepth 100000 in
theorem io_c_X1_move (l : Launch) (D : va_G) (ca : Nat → ClassId) (ad : Nat → Nat) (A : Nat → Prop) (σ : io_M) (p1 : Int32) (p2 : Int32) (post : io_M → Prop) (hw : wp_X1_move σ p1 p2 post) : Met l yX1_move (.code yX1_move cX1_move 3 none :: io_tb) (io_rm 1) (va_Pc [.ref (ad 88), .int p1, .int p2] (io_W D ca ad A σ)) (va_Qv post (io_W D ca ad A) A) 0 0 A := by
  refine Met.ofW (cc := cX1_move) (maxL := 3) (ret := none) (by decide) rfl ?_
  intro p e s m args below meth c s₁ Bd hml hv
  obtain ⟨rfl, hW0⟩ := hv
  have Z := io_Z.start hW0
  have B : CallFix p m c cX1_move 3 s _ io_tb RX1 := ⟨Bd.exec, Bd.bytes, hml, findClass_of_methodNamed Bd.named, fun w hw => atoms_spec (ws := (.code yX1_move cX1_move 3 none :: io_tb)) Bd.pre w (List.mem_cons_of_mem _ hw)⟩
  have hr := Bd.returns
  have hlk := Bd.notSynchronized
  have hl := lv_entry ([.ref (ad 88), .int p1, .int p2]) (n := 3) (Nat.le_of_ble_eq_true rfl)
  rw [lg_entry_eq]
  generalize (lg_sl ([.ref (ad 88), .int p1, .int p2]) ++ List.replicate (3 - (lg_sl ([.ref (ad 88), .int p1, .int p2])).length) Slot.unset).toArray = ls at hl ⊢
  have hl : lv_has ls 3 [(0, .ref (ad 88)), (1, .int p1), (2, .int p2)] := hl
  show W p l e (io_rm 1) s m _ below meth c s.heap [] 0 0 _ (F0 m 0 ls [])
  unfold wp_X1_move at hw
  refine lv_aload_n B.1 B.2.1 dX1_move_0 rfl (lv_at hl 0 rfl) ?_
  refine lv_dup B.1 B.2.1 dX1_move_1 rfl ?_
  refine io_g_1_4 B Z dX1_move_2 ?_
  refine lv_aload_n B.1 B.2.1 dX1_move_5 rfl (lv_at hl 0 rfl) ?_
  refine io_g_1_2 B Z dX1_move_6 ?_
  refine lv_iload_n B.1 B.2.1 dX1_move_9 rfl (lv_at hl 2 rfl) ?_
  refine io_iald B Z 91 (by decide) io_e_91 hw.1 dX1_move_10 ?_
  have hw := hw.2
  refine lv_isub B.1 B.2.1 dX1_move_11 ?_
  refine io_p_1_4 B Z dX1_move_12 (fun s2 H locs e3 Z => ?_)
  have hw := hw s2 e3
  refine lv_aload_n B.1 B.2.1 dX1_move_15 rfl (lv_at hl 0 rfl) ?_
  refine io_g_1_3 B Z dX1_move_16 ?_
  refine lv_iload_n B.1 B.2.1 dX1_move_19 rfl (lv_at hl 1 rfl) ?_
  have h4 := io_lt hw.1
  refine io_aldR B Z hw.1 dX1_move_20 ?_
  have hw := hw.2
  refine lv_iconst (v := 0) B.1 B.2.1 dX1_move_21 (by decide) ?_
  refine lv_aload_n B.1 B.2.1 dX1_move_22 rfl (lv_at hl 0 rfl) ?_
  refine io_g_1_3 B Z dX1_move_23 ?_
  refine lv_iload_n B.1 B.2.1 dX1_move_26 rfl (lv_at hl 2 rfl) ?_
  have h5 := io_lt hw.1
  refine io_aldR B Z hw.1 dX1_move_27 ?_
  have hw := hw.2
  refine lv_iconst (v := 0) B.1 B.2.1 dX1_move_28 (by decide) ?_
  refine lv_aload_n B.1 B.2.1 dX1_move_29 rfl (lv_at hl 0 rfl) ?_
  refine io_g_1_2 B Z dX1_move_30 ?_
  refine lv_iload_n B.1 B.2.1 dX1_move_33 rfl (lv_at hl 1 rfl) ?_
  refine io_iald B Z 91 (by decide) io_e_91 hw.1 dX1_move_34 ?_
  have hw := hw.2
  refine io_copy B Z hl.1 (io_of 643 (by decide +kernel) (by decide +kernel)) (io_of 645 (by decide +kernel) (by decide +kernel)) (io_of 644 (by decide +kernel) (by decide +kernel)) (io_of 78 (by decide +kernel) (by decide +kernel)) h4 h5 hw.1 hw.2.1 (Nat.le_of_ble_eq_true rfl) (Nat.le_of_ble_eq_true rfl) dX1_move_35 (fun s6 H locs e7 Z => ?_)
  have hw := hw.2.2 s6 e7
  refine lv_aload_n B.1 B.2.1 dX1_move_38 rfl (lv_at hl 0 rfl) ?_
  refine io_g_1_2 B Z dX1_move_39 ?_
  refine lv_iload_n B.1 B.2.1 dX1_move_42 rfl (lv_at hl 2 rfl) ?_
  refine lv_aload_n B.1 B.2.1 dX1_move_43 rfl (lv_at hl 0 rfl) ?_
  refine io_g_1_2 B Z dX1_move_44 ?_
  refine lv_iload_n B.1 B.2.1 dX1_move_47 rfl (lv_at hl 1 rfl) ?_
  refine io_iald B Z 91 (by decide) io_e_91 hw.1 dX1_move_48 ?_
  have hw := hw.2
  refine io_iast B Z 91 (by decide) io_e_91 hw.1 dX1_move_49 (fun s8 H locs e9 Z => ?_)
  have hw := hw.2 s8 e9
  refine lv_aload_n B.1 B.2.1 dX1_move_50 rfl (lv_at hl 0 rfl) ?_
  refine io_g_1_0 B Z dX1_move_51 ?_
  refine lv_iload_n B.1 B.2.1 dX1_move_54 rfl (lv_at hl 2 rfl) ?_
  refine lv_iconst (v := 1) B.1 B.2.1 dX1_move_55 (by decide) ?_
  refine io_zast B Z 89 (by decide) io_e_89 hw.1 dX1_move_56 (fun s10 H locs e11 Z => ?_)
  have hw := hw.2 s10 e11
  refine lv_aload_n B.1 B.2.1 dX1_move_57 rfl (lv_at hl 0 rfl) ?_
  refine io_g_1_2 B Z dX1_move_58 ?_
  refine lv_iload_n B.1 B.2.1 dX1_move_61 rfl (lv_at hl 1 rfl) ?_
  refine lv_iconst (v := 0) B.1 B.2.1 dX1_move_62 (by decide) ?_
  refine io_iast B Z 91 (by decide) io_e_91 hw.1 dX1_move_63 (fun s12 H locs e13 Z => ?_)
  have hw := hw.2 s12 e13
  refine lv_aload_n B.1 B.2.1 dX1_move_64 rfl (lv_at hl 0 rfl) ?_
  refine io_g_1_0 B Z dX1_move_65 ?_
  refine lv_iload_n B.1 B.2.1 dX1_move_68 rfl (lv_at hl 1 rfl) ?_
  refine lv_iconst (v := 0) B.1 B.2.1 dX1_move_69 (by decide) ?_
  refine io_zast B Z 89 (by decide) io_e_89 hw.1 dX1_move_70 (fun s14 H locs e15 Z => ?_)
  have hw := hw.2 s14 e15
  exact io_ret_v B Z hr hlk hw dX1_move_71
def wp_X1_byteAt (σ : io_M) (p1 : Int32) (p2 : Int32) (post : Int32 → io_M → Prop) : Prop := ((p2 < 0 → post (-1) σ) ∧ (¬ (p2 < 0) → (vp_in p1 8 ∧ (((σ 91 (p1).toNatClampNeg) ≤ p2 → post (-1) σ) ∧ (¬ ((σ 91 (p1).toNatClampNeg) ≤ p2) → (vp_in p1 8 ∧ (vp_in p2 40 ∧ post (σ (80 + (p1).toNatClampNeg) (p2).toNatClampNeg) σ)))))))
set_option maxHeartbeats 4000000 in
set_option maxRecDepth 100000 in
theorem io_c_X1_byteAt (l : Launch) (D : va_G) (ca : Nat → ClassId) (ad : Nat → Nat) (A : Nat → Prop) (σ : io_M) (p1 : Int32) (p2 : Int32) (post : Int32 → io_M → Prop) (hw : wp_X1_byteAt σ p1 p2 post) : Met l yX1_byteAt (.code yX1_byteAt cX1_byteAt 3 (some .int) :: io_tb) (io_rm 0) (va_Pc [.ref (ad 88), .int p1, .int p2] (io_W D ca ad A σ)) (va_Qi post (io_W D ca ad A) A) 0 0 A := by
  refine Met.ofW (cc := cX1_byteAt) (maxL := 3) (ret := (some .int)) (by decide) rfl ?_
  intro p e s m args below meth c s₁ Bd hml hv
  obtain ⟨rfl, hW0⟩ := hv
  have Z := io_Z.start hW0
  have B : CallFix p m c cX1_byteAt 3 s _ io_tb RX1 := ⟨Bd.exec, Bd.bytes, hml, findClass_of_methodNamed Bd.named, fun w hw => atoms_spec (ws := (.code yX1_byteAt cX1_byteAt 3 (some .int) :: io_tb)) Bd.pre w (List.mem_cons_of_mem _ hw)⟩
  have hr := Bd.returns
  have hlk := Bd.notSynchronized
  have hl := lv_entry ([.ref (ad 88), .int p1, .int p2]) (n := 3) (Nat.le_of_ble_eq_true rfl)
  rw [lg_entry_eq]
  generalize (lg_sl ([.ref (ad 88), .int p1, .int p2]) ++ List.replicate (3 - (lg_sl ([.ref (ad 88), .int p1, .int p2])).length) Slot.unset).toArray = ls at hl ⊢
  have hl : lv_has ls 3 [(0, .ref (ad 88)), (1, .int p1), (2, .int p2)] := hl
  show W p l e (io_rm 0) s m _ below meth c s.heap [] 0 0 _ (F0 m 0 ls [])
  unfold wp_X1_byteAt at hw
  refine lv_iload_n B.1 B.2.1 dX1_byteAt_0 rfl (lv_at hl 2 rfl) ?_
  refine lv_if_lt (tgt := 25) B.1 B.2.1 dX1_byteAt_1 (by decide) (fun k2 => ?_) (fun k2 => ?_)
  · have hw := hw.1 k2
    refine lv_iconst (v := (-1)) B.1 B.2.1 dX1_byteAt_25 (by decide) ?_
    exact io_ret_i B Z hr hlk hw dX1_byteAt_26
  · have hw := hw.2 k2
    refine lv_iload_n B.1 B.2.1 dX1_byteAt_4 rfl (lv_at hl 2 rfl) ?_
    refine lv_aload_n B.1 B.2.1 dX1_byteAt_5 rfl (lv_at hl 0 rfl) ?_
    refine io_g_1_2 B Z dX1_byteAt_6 ?_
    refine lv_iload_n B.1 B.2.1 dX1_byteAt_9 rfl (lv_at hl 1 rfl) ?_
    refine io_iald B Z 91 (by decide) io_e_91 hw.1 dX1_byteAt_10 ?_
    have hw := hw.2
    refine lv_icmp_ge (tgt := 25) B.1 B.2.1 dX1_byteAt_11 (by decide) (fun k3 => ?_) (fun k3 => ?_)
    · have hw := hw.1 k3
      refine lv_iconst (v := (-1)) B.1 B.2.1 dX1_byteAt_25 (by decide) ?_
      exact io_ret_i B Z hr hlk hw dX1_byteAt_26
    · have hw := hw.2 k3
      refine lv_aload_n B.1 B.2.1 dX1_byteAt_14 rfl (lv_at hl 0 rfl) ?_
      refine io_g_1_3 B Z dX1_byteAt_15 ?_
      refine lv_iload_n B.1 B.2.1 dX1_byteAt_18 rfl (lv_at hl 1 rfl) ?_
      have h4 := io_lt hw.1
      refine io_aldR B Z hw.1 dX1_byteAt_19 ?_
      have hw := hw.2
      refine lv_iload_n B.1 B.2.1 dX1_byteAt_20 rfl (lv_at hl 2 rfl) ?_
      refine io_iald B Z (80 + (p1).toNatClampNeg) (by have := h4; omega) (io_eR h4) hw.1 dX1_byteAt_21 ?_
      have hw := hw.2
      refine lv_goto (tgt := 26) B.1 B.2.1 dX1_byteAt_22 (by decide) ?_
      exact io_ret_i B Z hr hlk hw dX1_byteAt_26
def wp_X1_used (σ : io_M) (post : Int32 → io_M → Prop) : Prop := post (σ 88 4) σ
set_option maxHeartbeats 4000000 in
set_option maxRecDepth 100000 in
theorem io_c_X1_used (l : Launch) (D : va_G) (ca : Nat → ClassId) (ad : Nat → Nat) (A : Nat → Prop) (σ : io_M) (post : Int32 → io_M → Prop) (hw : wp_X1_used σ post) : Met l yX1_used (.code yX1_used cX1_used 1 (some .int) :: io_tb) (io_rm 0) (va_Pc [.ref (ad 88)] (io_W D ca ad A σ)) (va_Qi post (io_W D ca ad A) A) 0 0 A := by
  refine Met.ofW (cc := cX1_used) (maxL := 1) (ret := (some .int)) (by decide) rfl ?_
  intro p e s m args below meth c s₁ Bd hml hv
  obtain ⟨rfl, hW0⟩ := hv
  have Z := io_Z.start hW0
  have B : CallFix p m c cX1_used 1 s _ io_tb RX1 := ⟨Bd.exec, Bd.bytes, hml, findClass_of_methodNamed Bd.named, fun w hw => atoms_spec (ws := (.code yX1_used cX1_used 1 (some .int) :: io_tb)) Bd.pre w (List.mem_cons_of_mem _ hw)⟩
  have hr := Bd.returns
  have hlk := Bd.notSynchronized
  have hl := lv_entry ([.ref (ad 88)]) (n := 1) (Nat.le_of_ble_eq_true rfl)
  rw [lg_entry_eq]
  generalize (lg_sl ([.ref (ad 88)]) ++ List.replicate (1 - (lg_sl ([.ref (ad 88)])).length) Slot.unset).toArray = ls at hl ⊢
  have hl : lv_has ls 1 [(0, .ref (ad 88))] := hl
  show W p l e (io_rm 0) s m _ below meth c s.heap [] 0 0 _ (F0 m 0 ls [])
  unfold wp_X1_used at hw
  refine lv_aload_n B.1 B.2.1 dX1_used_0 rfl (lv_at hl 0 rfl) ?_
  refine io_g_1_4 B Z dX1_used_1 ?_
  exact io_ret_i B Z hr hlk hw dX1_used_4
