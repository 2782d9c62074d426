def wp_X8_fail (σ : io_M) (p1 : Int32) (p2 : Int32) (post : Int32 → io_M → Prop) : Prop := (∀ s2, s2 = io_up σ 107 7 3 → (∀ s4, s4 = io_up s2 107 8 p1 → (∀ s6, s6 = io_up s4 107 9 p2 → post 0 s6)))
set_option maxHeartbeats 4000000 in
set_option maxRecDepth 100000 in
theorem io_c_X8_fail (l : Launch) (D : va_G) (ca : Nat → ClassId) (ad : Nat → Nat) (A : Nat → Prop) (σ : io_M) (p1 : Int32) (p2 : Int32) (post : Int32 → io_M → Prop) (hw : wp_X8_fail σ p1 p2 post) : Met l yX8_fail (.code yX8_fail cX8_fail 3 (some .boolean) :: io_tb) (io_rm 0) (va_Pc [.ref (ad 107), .int p1, .int p2] (io_W D ca ad A σ)) (va_Qi (fun r u => io_bl r ∧ post r u) (io_W D ca ad A) A) 0 0 A := by
  refine Met.ofW (cc := cX8_fail) (maxL := 3) (ret := (some .boolean)) (by decide) rfl ?_
  intro p e s m args below meth c s₁ Bd hml hv
  obtain ⟨rfl, hW0⟩ := hv
  have Z := io_Z.start hW0
  have B : CallFix p m c cX8_fail 3 s _ io_tb RX8 := ⟨Bd.exec, Bd.bytes, hml, findClass_of_methodNamed Bd.named, fun w hw => atoms_spec (ws := (.code yX8_fail cX8_fail 3 (some .boolean) :: io_tb)) Bd.pre w (List.mem_cons_of_mem _ hw)⟩
  have hr := Bd.returns
  have hlk := Bd.notSynchronized
  have hl := lv_entry ([.ref (ad 107), .int p1, .int p2]) (n := 3) (Nat.le_of_ble_eq_true rfl)
  rw [lg_entry_eq]
  generalize (lg_sl ([.ref (ad 107), .int p1, .int p2]) ++ List.replicate (3 - (lg_sl ([.ref (ad 107), .int p1, .int p2])).length) Slot.unset).toArray = ls at hl ⊢
  have hl : lv_has ls 3 [(0, .ref (ad 107)), (1, .int p1), (2, .int p2)] := hl
  show W p l e (io_rm 0) s m _ below meth c s.heap [] 0 0 _ (F0 m 0 ls [])
  unfold wp_X8_fail at hw
  refine lv_aload_n B.1 B.2.1 dX8_fail_0 rfl (lv_at hl 0 rfl) ?_
  refine lv_iconst (v := 3) B.1 B.2.1 dX8_fail_1 (by decide) ?_
  refine io_p_8_7 B Z dX8_fail_2 (fun s2 H locs e3 Z => ?_)
  have hw := hw s2 e3
  refine lv_aload_n B.1 B.2.1 dX8_fail_5 rfl (lv_at hl 0 rfl) ?_
  refine lv_iload_n B.1 B.2.1 dX8_fail_6 rfl (lv_at hl 1 rfl) ?_
  refine io_p_8_8 B Z dX8_fail_7 (fun s4 H locs e5 Z => ?_)
  have hw := hw s4 e5
  refine lv_aload_n B.1 B.2.1 dX8_fail_10 rfl (lv_at hl 0 rfl) ?_
  refine lv_iload_n B.1 B.2.1 dX8_fail_11 rfl (lv_at hl 2 rfl) ?_
  refine io_p_8_9 B Z dX8_fail_12 (fun s6 H locs e7 Z => ?_)
  have hw := hw s6 e7
  refine lv_iconst (v := 0) B.1 B.2.1 dX8_fail_15 (by decide) ?_
  exact io_ret_z B Z hr hlk (Or.inl rfl) hw dX8_fail_16
def wp_X8_give (σ : io_M) (p1 : Int32) (p2 : Int32) (post : Int32 → io_M → Prop) : Prop := (∀ s2, s2 = io_up σ 107 7 p1 → (∀ s4, s4 = io_up s2 107 8 p2 → post 1 s4))
set_option maxHeartbeats 4000000 in
set_option maxRecDepth 100000 in
theorem io_c_X8_give (l : Launch) (D : va_G) (ca : Nat → ClassId) (ad : Nat → Nat) (A : Nat → Prop) (σ : io_M) (p1 : Int32) (p2 : Int32) (post : Int32 → io_M → Prop) (hw : wp_X8_give σ p1 p2 post) : Met l yX8_give (.code yX8_give cX8_give 3 (some .boolean) :: io_tb) (io_rm 0) (va_Pc [.ref (ad 107), .int p1, .int p2] (io_W D ca ad A σ)) (va_Qi (fun r u => io_bl r ∧ post r u) (io_W D ca ad A) A) 0 0 A := by
  refine Met.ofW (cc := cX8_give) (maxL := 3) (ret := (some .boolean)) (by decide) rfl ?_
  intro p e s m args below meth c s₁ Bd hml hv
  obtain ⟨rfl, hW0⟩ := hv
  have Z := io_Z.start hW0
  have B : CallFix p m c cX8_give 3 s _ io_tb RX8 := ⟨Bd.exec, Bd.bytes, hml, findClass_of_methodNamed Bd.named, fun w hw => atoms_spec (ws := (.code yX8_give cX8_give 3 (some .boolean) :: io_tb)) Bd.pre w (List.mem_cons_of_mem _ hw)⟩
  have hr := Bd.returns
  have hlk := Bd.notSynchronized
  have hl := lv_entry ([.ref (ad 107), .int p1, .int p2]) (n := 3) (Nat.le_of_ble_eq_true rfl)
  rw [lg_entry_eq]
  generalize (lg_sl ([.ref (ad 107), .int p1, .int p2]) ++ List.replicate (3 - (lg_sl ([.ref (ad 107), .int p1, .int p2])).length) Slot.unset).toArray = ls at hl ⊢
  have hl : lv_has ls 3 [(0, .ref (ad 107)), (1, .int p1), (2, .int p2)] := hl
  show W p l e (io_rm 0) s m _ below meth c s.heap [] 0 0 _ (F0 m 0 ls [])
  unfold wp_X8_give at hw
  refine lv_aload_n B.1 B.2.1 dX8_give_0 rfl (lv_at hl 0 rfl) ?_
  refine lv_iload_n B.1 B.2.1 dX8_give_1 rfl (lv_at hl 1 rfl) ?_
  refine io_p_8_7 B Z dX8_give_2 (fun s2 H locs e3 Z => ?_)
  have hw := hw s2 e3
  refine lv_aload_n B.1 B.2.1 dX8_give_5 rfl (lv_at hl 0 rfl) ?_
  refine lv_iload_n B.1 B.2.1 dX8_give_6 rfl (lv_at hl 2 rfl) ?_
  refine io_p_8_8 B Z dX8_give_7 (fun s4 H locs e5 Z => ?_)
  have hw := hw s4 e5
  refine lv_iconst (v := 1) B.1 B.2.1 dX8_give_10 (by decide) ?_
  exact io_ret_z B Z hr hlk (Or.inr rfl) hw dX8_give_11
def wp_X8_settle (σ : io_M) (p1 : Int32) (p2 : Int32) (p3 : Int32) (post : Int32 → io_M → Prop) : Prop := ((0 ≤ p3 → (wp_X8_give σ p2 p3 (fun r3 s4 => post r3 s4))) ∧ (¬ (0 ≤ p3) → (wp_X9_turned σ p3 (fun r6 s7 => (wp_X8_fail s7 r6 p1 (fun r8 s9 => post r8 s9))))))
set_option maxHeartbeats 4000000 in
set_option maxRecDepth 100000 in
theorem io_c_X8_settle (l : Launch) (D : va_G) (ca : Nat → ClassId) (ad : Nat → Nat) (A : Nat → Prop) (σ : io_M) (p1 : Int32) (p2 : Int32) (p3 : Int32) (post : Int32 → io_M → Prop) (hw : wp_X8_settle σ p1 p2 p3 post) : Met l yX8_settle (.code yX8_settle cX8_settle 4 (some .boolean) :: io_tb) (io_rm 1) (va_Pc [.ref (ad 107), .int p1, .int p2, .int p3] (io_W D ca ad A σ)) (va_Qi (fun r u => io_bl r ∧ post r u) (io_W D ca ad A) A) 0 0 A := by
  refine Met.ofW (cc := cX8_settle) (maxL := 4) (ret := (some .boolean)) (by decide) rfl ?_
  intro p e s m args below meth c s₁ Bd hml hv
  obtain ⟨rfl, hW0⟩ := hv
  have Z := io_Z.start hW0
  have B : CallFix p m c cX8_settle 4 s _ io_tb RX8 := ⟨Bd.exec, Bd.bytes, hml, findClass_of_methodNamed Bd.named, fun w hw => atoms_spec (ws := (.code yX8_settle cX8_settle 4 (some .boolean) :: io_tb)) Bd.pre w (List.mem_cons_of_mem _ hw)⟩
  have hr := Bd.returns
  have hlk := Bd.notSynchronized
  have hl := lv_entry ([.ref (ad 107), .int p1, .int p2, .int p3]) (n := 4) (Nat.le_of_ble_eq_true rfl)
  rw [lg_entry_eq]
  generalize (lg_sl ([.ref (ad 107), .int p1, .int p2, .int p3]) ++ List.replicate (4 - (lg_sl ([.ref (ad 107), .int p1, .int p2, .int p3])).length) Slot.unset).toArray = ls at hl ⊢
  have hl : lv_has ls 4 [(0, .ref (ad 107)), (1, .int p1), (2, .int p2), (3, .int p3)] := hl
  show W p l e (io_rm 1) s m _ below meth c s.heap [] 0 0 _ (F0 m 0 ls [])
  unfold wp_X8_settle at hw
  refine lv_iload_n B.1 B.2.1 dX8_settle_0 rfl (lv_at hl 3 rfl) ?_
  refine lv_if_ge (tgt := 16) B.1 B.2.1 dX8_settle_1 (by decide) (fun k2 => ?_) (fun k2 => ?_)
  · have hw := hw.1 k2
    refine lv_aload_n B.1 B.2.1 dX8_settle_16 rfl (lv_at hl 0 rfl) ?_
    refine lv_iload_n B.1 B.2.1 dX8_settle_17 rfl (lv_at hl 2 rfl) ?_
    refine lv_iload_n B.1 B.2.1 dX8_settle_18 rfl (lv_at hl 3 rfl) ?_
    refine io_call_i Z (io_runV (ci := 8) (k := 107) [.int p2, .int p3] [] B Z (io_c_X8_give l D ca ad A _ p2 p3 _ hw) io_k_8_88 (io_hR (by decide) (by decide)) rfl (by decide) (io_e_107 _) rfl hl.1 (Nat.le_of_ble_eq_true rfl) dX8_settle_19 ⟨Nat.le_refl _, Nat.le_refl _⟩) (fun r3 s4 H locs hw Z => ?_)
    obtain ⟨b5, hw⟩ := hw
    exact io_ret_z B Z hr hlk b5 hw dX8_settle_22
  · have hw := hw.2 k2
    refine lv_aload_n B.1 B.2.1 dX8_settle_4 rfl (lv_at hl 0 rfl) ?_
    refine lv_iload_n B.1 B.2.1 dX8_settle_5 rfl (lv_at hl 3 rfl) ?_
    refine io_call_i Z (io_runN [.int p3] [.ref (ad 107)] B Z (io_c_X9_turned l D ca ad A _ p3 _ hw) io_k_8_131 (io_hR (by decide) (by decide)) rfl hl.1 (Nat.le_of_ble_eq_true rfl) dX8_settle_6 ⟨Nat.le_refl _, Nat.le_refl _⟩) (fun r6 s7 H locs hw Z => ?_)
    refine lv_iload_n B.1 B.2.1 dX8_settle_9 rfl (lv_at hl 1 rfl) ?_
    refine io_call_i Z (io_runV (ci := 8) (k := 107) [.int r6, .int p1] [] B Z (io_c_X8_fail l D ca ad A _ r6 p1 _ hw) io_k_8_116 (io_hR (by decide) (by decide)) rfl (by decide) (io_e_107 _) rfl hl.1 (Nat.le_of_ble_eq_true rfl) dX8_settle_10 ⟨Nat.le_refl _, Nat.le_refl _⟩) (fun r8 s9 H locs hw Z => ?_)
    obtain ⟨b10, hw⟩ := hw
    refine lv_goto (tgt := 22) B.1 B.2.1 dX8_settle_13 (by decide) ?_
    exact io_ret_z B Z hr hlk b10 hw dX8_settle_22
def wp_X8_act (σ : io_M) (p1 : Int32) (p2 : Int32) (p3 : Int32) (post : Int32 → io_M → Prop) : Prop := ((p3 < 0 → (wp_X8_settle σ p1 p2 p3 (fun r3 s4 => post r3 s4))) ∧ (¬ (p3 < 0) → (wp_X4_note σ p1 (fun s7 => (wp_X8_settle s7 p1 p2 p3 (fun r8 s9 => post r8 s9))))))
set_option maxHeartbeats 4000000 in
set_option maxRecDepth 100000 in
theorem io_c_X8_act (l : Launch) (D : va_G) (ca : Nat → ClassId) (ad : Nat → Nat) (A : Nat → Prop) (σ : io_M) (p1 : Int32) (p2 : Int32) (p3 : Int32) (post : Int32 → io_M → Prop) (hw : wp_X8_act σ p1 p2 p3 post) : Met l yX8_act (.code yX8_act cX8_act 4 (some .boolean) :: io_tb) (io_rm 2) (va_Pc [.ref (ad 107), .int p1, .int p2, .int p3] (io_W D ca ad A σ)) (va_Qi (fun r u => io_bl r ∧ post r u) (io_W D ca ad A) A) 0 0 A := by
  refine Met.ofW (cc := cX8_act) (maxL := 4) (ret := (some .boolean)) (by decide) rfl ?_
  intro p e s m args below meth c s₁ Bd hml hv
  obtain ⟨rfl, hW0⟩ := hv
  have Z := io_Z.start hW0
  have B : CallFix p m c cX8_act 4 s _ io_tb RX8 := ⟨Bd.exec, Bd.bytes, hml, findClass_of_methodNamed Bd.named, fun w hw => atoms_spec (ws := (.code yX8_act cX8_act 4 (some .boolean) :: io_tb)) Bd.pre w (List.mem_cons_of_mem _ hw)⟩
  have hr := Bd.returns
  have hlk := Bd.notSynchronized
  have hl := lv_entry ([.ref (ad 107), .int p1, .int p2, .int p3]) (n := 4) (Nat.le_of_ble_eq_true rfl)
  rw [lg_entry_eq]
  generalize (lg_sl ([.ref (ad 107), .int p1, .int p2, .int p3]) ++ List.replicate (4 - (lg_sl ([.ref (ad 107), .int p1, .int p2, .int p3])).length) Slot.unset).toArray = ls at hl ⊢
  have hl : lv_has ls 4 [(0, .ref (ad 107)), (1, .int p1), (2, .int p2), (3, .int p3)] := hl
  show W p l e (io_rm 2) s m _ below meth c s.heap [] 0 0 _ (F0 m 0 ls [])
  unfold wp_X8_act at hw
  refine lv_iload_n B.1 B.2.1 dX8_act_0 rfl (lv_at hl 3 rfl) ?_
  refine lv_if_lt (tgt := 12) B.1 B.2.1 dX8_act_1 (by decide) (fun k2 => ?_) (fun k2 => ?_)
  · have hw := hw.1 k2
    refine lv_aload_n B.1 B.2.1 dX8_act_12 rfl (lv_at hl 0 rfl) ?_
    refine lv_iload_n B.1 B.2.1 dX8_act_13 rfl (lv_at hl 1 rfl) ?_
    refine lv_iload_n B.1 B.2.1 dX8_act_14 rfl (lv_at hl 2 rfl) ?_
    refine lv_iload_n B.1 B.2.1 dX8_act_15 rfl (lv_at hl 3 rfl) ?_
    refine io_call_i Z (io_runV (ci := 8) (k := 107) [.int p1, .int p2, .int p3] [] B Z (io_c_X8_settle l D ca ad A _ p1 p2 p3 _ hw) io_k_8_138 (io_hR (by decide) (by decide)) rfl (by decide) (io_e_107 _) rfl hl.1 (Nat.le_of_ble_eq_true rfl) dX8_act_16 ⟨Nat.le_refl _, Nat.le_refl _⟩) (fun r3 s4 H locs hw Z => ?_)
    obtain ⟨b5, hw⟩ := hw
    exact io_ret_z B Z hr hlk b5 hw dX8_act_19
  · have hw := hw.2 k2
    refine lv_aload_n B.1 B.2.1 dX8_act_4 rfl (lv_at hl 0 rfl) ?_
    refine io_g_8_4 B Z dX8_act_5 ?_
    refine lv_iload_n B.1 B.2.1 dX8_act_8 rfl (lv_at hl 1 rfl) ?_
    refine io_call_v Z (io_runV (ci := 4) (k := 105) [.int p1] [] B Z (io_c_X4_note l D ca ad A _ p1 _ hw) io_k_8_134 (io_hR (by decide) (by decide)) rfl (by decide) (io_e_105 _) rfl hl.1 (Nat.le_of_ble_eq_true rfl) dX8_act_9 ⟨Nat.le_refl _, Nat.le_refl _⟩) (fun s7 H locs hw Z => ?_)
    refine lv_aload_n B.1 B.2.1 dX8_act_12 rfl (lv_at hl 0 rfl) ?_
    refine lv_iload_n B.1 B.2.1 dX8_act_13 rfl (lv_at hl 1 rfl) ?_
    refine lv_iload_n B.1 B.2.1 dX8_act_14 rfl (lv_at hl 2 rfl) ?_
    refine lv_iload_n B.1 B.2.1 dX8_act_15 rfl (lv_at hl 3 rfl) ?_
    refine io_call_i Z (io_runV (ci := 8) (k := 107) [.int p1, .int p2, .int p3] [] B Z (io_c_X8_settle l D ca ad A _ p1 p2 p3 _ hw) io_k_8_138 (io_hR (by decide) (by decide)) rfl (by decide) (io_e_107 _) rfl hl.1 (Nat.le_of_ble_eq_true rfl) dX8_act_16 ⟨Nat.le_refl _, Nat.le_refl _⟩) (fun r8 s9 H locs hw Z => ?_)
    obtain ⟨b10, hw⟩ := hw
    exact io_ret_z B Z hr hlk b10 hw dX8_act_19
def wp_X8_actAlone (σ : io_M) (p1 : Int32) (post : Int32 → io_M → Prop) : Prop := (wp_X7_first σ p1 (fun r2 s3 => (wp_X7_second s3 p1 (fun r4 s5 => (wp_X7_code s5 p1 (fun r6 s7 => ((r6 = 3 → (wp_X3_open s7 r2 r4 (fun r9 s10 => (wp_X8_act s10 p1 1 r9 (fun r11 s12 => post r11 s12))))) ∧ (¬ (r6 = 3) → ((r6 = 15 → (wp_X3_removeFile s7 r2 (fun r15 s16 => (wp_X8_act s16 p1 0 r15 (fun r17 s18 => post r17 s18))))) ∧ (¬ (r6 = 15) → ((r6 = 16 → (wp_X3_renameFile s7 r2 r4 (fun r21 s22 => ((r2 = r4 → (wp_X8_settle s22 p1 0 r21 (fun r27 s28 => post r27 s28))) ∧ (¬ (r2 = r4) → (wp_X8_act s22 p1 0 r21 (fun r24 s25 => post r24 s25))))))) ∧ (¬ (r6 = 16) → (wp_X0_readByte s7 (fun r30 s31 => (wp_X8_act s31 p1 0 r30 (fun r32 s33 => post r32 s33))))))))))))))))
set_option maxHeartbeats 4000000 in
set_option maxRecDepth 100000 in
theorem io_c_X8_actAlone (l : Launch) (D : va_G) (ca : Nat → ClassId) (ad : Nat → Nat) (A : Nat → Prop) (σ : io_M) (p1 : Int32) (post : Int32 → io_M → Prop) (hw : wp_X8_actAlone σ p1 post) : Met l yX8_actAlone (.code yX8_actAlone cX8_actAlone 5 (some .boolean) :: io_tb) (io_rm 4) (va_Pc [.ref (ad 107), .int p1] (io_W D ca ad A σ)) (va_Qi (fun r u => io_bl r ∧ post r u) (io_W D ca ad A) A) 0 0 A := by
  refine Met.ofW (cc := cX8_actAlone) (maxL := 5) (ret := (some .boolean)) (by decide) rfl ?_
  intro p e s m args below meth c s₁ Bd hml hv
  obtain ⟨rfl, hW0⟩ := hv
  have Z := io_Z.start hW0
  have B : CallFix p m c cX8_actAlone 5 s _ io_tb RX8 := ⟨Bd.exec, Bd.bytes, hml, findClass_of_methodNamed Bd.named, fun w hw => atoms_spec (ws := (.code yX8_actAlone cX8_actAlone 5 (some .boolean) :: io_tb)) Bd.pre w (List.mem_cons_of_mem _ hw)⟩
  have hr := Bd.returns
  have hlk := Bd.notSynchronized
  have hl := lv_entry ([.ref (ad 107), .int p1]) (n := 5) (Nat.le_of_ble_eq_true rfl)
  rw [lg_entry_eq]
  generalize (lg_sl ([.ref (ad 107), .int p1]) ++ List.replicate (5 - (lg_sl ([.ref (ad 107), .int p1])).length) Slot.unset).toArray = ls at hl ⊢
  have hl : lv_has ls 5 [(0, .ref (ad 107)), (1, .int p1)] := hl
  show W p l e (io_rm 4) s m _ below meth c s.heap [] 0 0 _ (F0 m 0 ls [])
  unfold wp_X8_actAlone at hw
  refine lv_aload_n B.1 B.2.1 dX8_actAlone_0 rfl (lv_at hl 0 rfl) ?_
  refine io_g_8_0 B Z dX8_actAlone_1 ?_
  refine lv_iload_n B.1 B.2.1 dX8_actAlone_4 rfl (lv_at hl 1 rfl) ?_
  refine io_call_i Z (io_runV (ci := 7) (k := 96) [.int p1] [] B Z (io_c_X7_first l D ca ad A _ p1 _ hw) io_k_8_85 (io_hR (by decide) (by decide)) rfl (by decide) (io_e_96 _) rfl hl.1 (Nat.le_of_ble_eq_true rfl) dX8_actAlone_5 ⟨Nat.le_refl _, Nat.le_refl _⟩) (fun r2 s3 H locs hw Z => ?_)
  refine lv_istore_n (lv' := [(2, .int r2), (0, .ref (ad 107)), (1, .int p1)]) B.1 B.2.1 dX8_actAlone_8 rfl hl (by decide) rfl (fun ls hl => ?_)
  refine lv_aload_n B.1 B.2.1 dX8_actAlone_9 rfl (lv_at hl 1 rfl) ?_
  refine io_g_8_0 B Z dX8_actAlone_10 ?_
  refine lv_iload_n B.1 B.2.1 dX8_actAlone_13 rfl (lv_at hl 2 rfl) ?_
  refine io_call_i Z (io_runV (ci := 7) (k := 96) [.int p1] [] B Z (io_c_X7_second l D ca ad A _ p1 _ hw) io_k_8_110 (io_hR (by decide) (by decide)) rfl (by decide) (io_e_96 _) rfl hl.1 (Nat.le_of_ble_eq_true rfl) dX8_actAlone_14 ⟨Nat.le_refl _, Nat.le_refl _⟩) (fun r4 s5 H locs hw Z => ?_)
  refine lv_istore_n (lv' := [(3, .int r4), (2, .int r2), (0, .ref (ad 107)), (1, .int p1)]) B.1 B.2.1 dX8_actAlone_17 rfl hl (by decide) rfl (fun ls hl => ?_)
  refine lv_aload_n B.1 B.2.1 dX8_actAlone_18 rfl (lv_at hl 2 rfl) ?_
  refine io_g_8_0 B Z dX8_actAlone_19 ?_
  refine lv_iload_n B.1 B.2.1 dX8_actAlone_22 rfl (lv_at hl 3 rfl) ?_
  refine io_call_i Z (io_runV (ci := 7) (k := 96) [.int p1] [] B Z (io_c_X7_code l D ca ad A _ p1 _ hw) io_k_8_79 (io_hR (by decide) (by decide)) rfl (by decide) (io_e_96 _) rfl hl.1 (Nat.le_of_ble_eq_true rfl) dX8_actAlone_23 ⟨Nat.le_refl _, Nat.le_refl _⟩) (fun r6 s7 H locs hw Z => ?_)
  rcases Classical.em (r6 = 3) with k8 | k8
  · have hw := hw.1 k8
    refine lv_lookup (tgt := 68) (off := 42) B.1 B.2.1 dX8_actAlone_26 (by decide) (by rw [k8]; rfl) (by decide) ?_
    refine lv_aload_n B.1 B.2.1 dX8_actAlone_68 rfl (lv_at hl 2 rfl) ?_
    refine lv_iload_n B.1 B.2.1 dX8_actAlone_69 rfl (lv_at hl 3 rfl) ?_
    refine lv_iconst (v := 1) B.1 B.2.1 dX8_actAlone_70 (by decide) ?_
    refine lv_aload_n B.1 B.2.1 dX8_actAlone_71 rfl (lv_at hl 2 rfl) ?_
    refine io_g_8_2 B Z dX8_actAlone_72 ?_
    refine lv_iload_n B.1 B.2.1 dX8_actAlone_75 rfl (lv_at hl 1 rfl) ?_
    refine lv_iload_n B.1 B.2.1 dX8_actAlone_76 rfl (lv_at hl 0 rfl) ?_
    refine io_call_i Z (io_runV (ci := 3) (k := 101) [.int r2, .int r4] [.int 1, .int p1, .ref (ad 107)] B Z (io_c_X3_open l D ca ad A _ r2 r4 _ hw) io_k_8_220 (io_hR (by decide) (by decide)) rfl (by decide) (io_e_101 _) rfl hl.1 (Nat.le_of_ble_eq_true rfl) dX8_actAlone_77 ⟨Nat.le_refl _, Nat.le_refl _⟩) (fun r9 s10 H locs hw Z => ?_)
    refine io_call_i Z (io_runV (ci := 8) (k := 107) [.int p1, .int 1, .int r9] [] B Z (io_c_X8_act l D ca ad A _ p1 1 r9 _ hw) io_k_8_170 (io_hR (by decide) (by decide)) rfl (by decide) (io_e_107 _) rfl hl.1 (Nat.le_of_ble_eq_true rfl) dX8_actAlone_80 ⟨Nat.le_refl _, Nat.le_refl _⟩) (fun r11 s12 H locs hw Z => ?_)
    obtain ⟨b13, hw⟩ := hw
    exact io_ret_z B Z hr hlk b13 hw dX8_actAlone_83
  have hw := hw.2 k8
  rcases Classical.em (r6 = 15) with k14 | k14
  · have hw := hw.1 k14
    refine lv_lookup (tgt := 84) (off := 58) B.1 B.2.1 dX8_actAlone_26 (by decide) (by rw [k14]; rfl) (by decide) ?_
    refine lv_aload_n B.1 B.2.1 dX8_actAlone_84 rfl (lv_at hl 2 rfl) ?_
    refine lv_iload_n B.1 B.2.1 dX8_actAlone_85 rfl (lv_at hl 3 rfl) ?_
    refine lv_iconst (v := 0) B.1 B.2.1 dX8_actAlone_86 (by decide) ?_
    refine lv_aload_n B.1 B.2.1 dX8_actAlone_87 rfl (lv_at hl 2 rfl) ?_
    refine io_g_8_2 B Z dX8_actAlone_88 ?_
    refine lv_iload_n B.1 B.2.1 dX8_actAlone_91 rfl (lv_at hl 1 rfl) ?_
    refine io_call_i Z (io_runV (ci := 3) (k := 101) [.int r2] [.int 0, .int p1, .ref (ad 107)] B Z (io_c_X3_removeFile l D ca ad A _ r2 _ hw) io_k_8_224 (io_hR (by decide) (by decide)) rfl (by decide) (io_e_101 _) rfl hl.1 (Nat.le_of_ble_eq_true rfl) dX8_actAlone_92 ⟨Nat.le_refl _, Nat.le_refl _⟩) (fun r15 s16 H locs hw Z => ?_)
    refine io_call_i Z (io_runV (ci := 8) (k := 107) [.int p1, .int 0, .int r15] [] B Z (io_c_X8_act l D ca ad A _ p1 0 r15 _ hw) io_k_8_170 (io_hR (by decide) (by decide)) rfl (by decide) (io_e_107 _) rfl hl.1 (Nat.le_of_ble_eq_true rfl) dX8_actAlone_95 ⟨Nat.le_refl _, Nat.le_refl _⟩) (fun r17 s18 H locs hw Z => ?_)
    obtain ⟨b19, hw⟩ := hw
    exact io_ret_z B Z hr hlk b19 hw dX8_actAlone_98
  have hw := hw.2 k14
  rcases Classical.em (r6 = 16) with k20 | k20
  · have hw := hw.1 k20
    refine lv_lookup (tgt := 99) (off := 73) B.1 B.2.1 dX8_actAlone_26 (by decide) (by rw [k20]; rfl) (by decide) ?_
    refine lv_aload_n B.1 B.2.1 dX8_actAlone_99 rfl (lv_at hl 2 rfl) ?_
    refine io_g_8_2 B Z dX8_actAlone_100 ?_
    refine lv_iload_n B.1 B.2.1 dX8_actAlone_103 rfl (lv_at hl 1 rfl) ?_
    refine lv_iload_n B.1 B.2.1 dX8_actAlone_104 rfl (lv_at hl 0 rfl) ?_
    refine io_call_i Z (io_runV (ci := 3) (k := 101) [.int r2, .int r4] [] B Z (io_c_X3_renameFile l D ca ad A _ r2 r4 _ hw) io_k_8_227 (io_hR (by decide) (by decide)) rfl (by decide) (io_e_101 _) rfl hl.1 (Nat.le_of_ble_eq_true rfl) dX8_actAlone_105 ⟨Nat.le_refl _, Nat.le_refl _⟩) (fun r21 s22 H locs hw Z => ?_)
    refine lv_istore (lv' := [(4, .int r21), (3, .int r4), (2, .int r2), (0, .ref (ad 107)), (1, .int p1)]) B.1 B.2.1 dX8_actAlone_108 hl (by decide) rfl (fun ls hl => ?_)
    refine lv_iload_n B.1 B.2.1 dX8_actAlone_110 rfl (lv_at hl 2 rfl) ?_
    refine lv_iload_n B.1 B.2.1 dX8_actAlone_111 rfl (lv_at hl 1 rfl) ?_
    refine lv_icmp_ne (tgt := 126) B.1 B.2.1 dX8_actAlone_112 (by decide) (fun k23 => ?_) (fun k23 => ?_)
    · have hw := hw.2 k23
      refine lv_aload_n B.1 B.2.1 dX8_actAlone_126 rfl (lv_at hl 3 rfl) ?_
      refine lv_iload_n B.1 B.2.1 dX8_actAlone_127 rfl (lv_at hl 4 rfl) ?_
      refine lv_iconst (v := 0) B.1 B.2.1 dX8_actAlone_128 (by decide) ?_
      refine lv_iload B.1 B.2.1 dX8_actAlone_129 (lv_at hl 0 rfl) ?_
      refine io_call_i Z (io_runV (ci := 8) (k := 107) [.int p1, .int 0, .int r21] [] B Z (io_c_X8_act l D ca ad A _ p1 0 r21 _ hw) io_k_8_170 (io_hR (by decide) (by decide)) rfl (by decide) (io_e_107 _) rfl hl.1 (Nat.le_of_ble_eq_true rfl) dX8_actAlone_131 ⟨Nat.le_refl _, Nat.le_refl _⟩) (fun r24 s25 H locs hw Z => ?_)
      obtain ⟨b26, hw⟩ := hw
      exact io_ret_z B Z hr hlk b26 hw dX8_actAlone_134
    · have hw := hw.1 k23
      refine lv_aload_n B.1 B.2.1 dX8_actAlone_115 rfl (lv_at hl 3 rfl) ?_
      refine lv_iload_n B.1 B.2.1 dX8_actAlone_116 rfl (lv_at hl 4 rfl) ?_
      refine lv_iconst (v := 0) B.1 B.2.1 dX8_actAlone_117 (by decide) ?_
      refine lv_iload B.1 B.2.1 dX8_actAlone_118 (lv_at hl 0 rfl) ?_
      refine io_call_i Z (io_runV (ci := 8) (k := 107) [.int p1, .int 0, .int r21] [] B Z (io_c_X8_settle l D ca ad A _ p1 0 r21 _ hw) io_k_8_138 (io_hR (by decide) (by decide)) rfl (by decide) (io_e_107 _) rfl hl.1 (Nat.le_of_ble_eq_true rfl) dX8_actAlone_120 ⟨Nat.le_refl _, Nat.le_refl _⟩) (fun r27 s28 H locs hw Z => ?_)
      obtain ⟨b29, hw⟩ := hw
      refine lv_goto (tgt := 134) B.1 B.2.1 dX8_actAlone_123 (by decide) ?_
      exact io_ret_z B Z hr hlk b29 hw dX8_actAlone_134
  have hw := hw.2 k20
  refine lv_lookup (tgt := 135) (off := 109) B.1 B.2.1 dX8_actAlone_26 (by decide) (by rw [lv_osw k8 (by decide), lv_osw k14 (by decide), lv_osw k20 (by decide)]; rcases Classical.em (r6 = 18) with z | z; (rw [z]; rfl); (rw [lv_osw z (by decide)]; rfl)) (by decide) ?_
  refine lv_aload_n B.1 B.2.1 dX8_actAlone_135 rfl (lv_at hl 2 rfl) ?_
  refine lv_iload_n B.1 B.2.1 dX8_actAlone_136 rfl (lv_at hl 3 rfl) ?_
  refine lv_iconst (v := 0) B.1 B.2.1 dX8_actAlone_137 (by decide) ?_
  refine lv_aload_n B.1 B.2.1 dX8_actAlone_138 rfl (lv_at hl 2 rfl) ?_
  refine io_g_8_1 B Z dX8_actAlone_139 ?_
  refine io_call_i Z (io_runV (ci := 0) (k := 93) [] [.int 0, .int p1, .ref (ad 107)] B Z (io_c_X0_readByte l D ca ad A _ _ hw) io_k_8_230 (io_hR (by decide) (by decide)) rfl (by decide) (io_e_93 _) rfl hl.1 (Nat.le_of_ble_eq_true rfl) dX8_actAlone_142 ⟨Nat.le_refl _, Nat.le_refl _⟩) (fun r30 s31 H locs hw Z => ?_)
  refine io_call_i Z (io_runV (ci := 8) (k := 107) [.int p1, .int 0, .int r30] [] B Z (io_c_X8_act l D ca ad A _ p1 0 r30 _ hw) io_k_8_170 (io_hR (by decide) (by decide)) rfl (by decide) (io_e_107 _) rfl hl.1 (Nat.le_of_ble_eq_true rfl) dX8_actAlone_145 ⟨Nat.le_refl _, Nat.le_refl _⟩) (fun r32 s33 H locs hw Z => ?_)
  obtain ⟨b34, hw⟩ := hw
  exact io_ret_z B Z hr hlk b34 hw dX8_actAlone_148
def wp_X8_stop (σ : io_M) (post : Int32 → io_M → Prop) : Prop := (∀ s2, s2 = io_up σ 107 7 5 → (∀ s4, s4 = io_up s2 107 8 0 → post 0 s4))
set_option maxHeartbeats 4000000 in
set_option maxRecDepth 100000 in
theorem io_c_X8_stop (l : Launch) (D : va_G) (ca : Nat → ClassId) (ad : Nat → Nat) (A : Nat → Prop) (σ : io_M) (post : Int32 → io_M → Prop) (hw : wp_X8_stop σ post) : Met l yX8_stop (.code yX8_stop cX8_stop 1 (some .boolean) :: io_tb) (io_rm 0) (va_Pc [.ref (ad 107)] (io_W D ca ad A σ)) (va_Qi (fun r u => io_bl r ∧ post r u) (io_W D ca ad A) A) 0 0 A := by
  refine Met.ofW (cc := cX8_stop) (maxL := 1) (ret := (some .boolean)) (by decide) rfl ?_
  intro p e s m args below meth c s₁ Bd hml hv
  obtain ⟨rfl, hW0⟩ := hv
  have Z := io_Z.start hW0
  have B : CallFix p m c cX8_stop 1 s _ io_tb RX8 := ⟨Bd.exec, Bd.bytes, hml, findClass_of_methodNamed Bd.named, fun w hw => atoms_spec (ws := (.code yX8_stop cX8_stop 1 (some .boolean) :: io_tb)) Bd.pre w (List.mem_cons_of_mem _ hw)⟩
  have hr := Bd.returns
  have hlk := Bd.notSynchronized
  have hl := lv_entry ([.ref (ad 107)]) (n := 1) (Nat.le_of_ble_eq_true rfl)
  rw [lg_entry_eq]
  generalize (lg_sl ([.ref (ad 107)]) ++ List.replicate (1 - (lg_sl ([.ref (ad 107)])).length) Slot.unset).toArray = ls at hl ⊢
  have hl : lv_has ls 1 [(0, .ref (ad 107))] := hl
  show W p l e (io_rm 0) s m _ below meth c s.heap [] 0 0 _ (F0 m 0 ls [])
  unfold wp_X8_stop at hw
  refine lv_aload_n B.1 B.2.1 dX8_stop_0 rfl (lv_at hl 0 rfl) ?_
  refine lv_iconst (v := 5) B.1 B.2.1 dX8_stop_1 (by decide) ?_
  refine io_p_8_7 B Z dX8_stop_2 (fun s2 H locs e3 Z => ?_)
  have hw := hw s2 e3
  refine lv_aload_n B.1 B.2.1 dX8_stop_5 rfl (lv_at hl 0 rfl) ?_
  refine lv_iconst (v := 0) B.1 B.2.1 dX8_stop_6 (by decide) ?_
  refine io_p_8_8 B Z dX8_stop_7 (fun s4 H locs e5 Z => ?_)
  have hw := hw s4 e5
  refine lv_iconst (v := 0) B.1 B.2.1 dX8_stop_10 (by decide) ?_
  exact io_ret_z B Z hr hlk (Or.inl rfl) hw dX8_stop_11
def wp_X8_assign (σ : io_M) (p1 : Int32) (p2 : Int32) (p3 : Int32) (post : io_M → Prop) : Prop := (vp_in p1 6 ∧ ∀ s2, s2 = io_up σ 108 (p1).toNatClampNeg (p2) → (vp_in p1 6 ∧ ∀ s4, s4 = io_up s2 109 (p1).toNatClampNeg (p3) → post s4))
set_option maxHeartbeats 4000000 in
set_option maxRecDepth 100000 in
theorem io_c_X8_assign (l : Launch) (D : va_G) (ca : Nat → ClassId) (ad : Nat → Nat) (A : Nat → Prop) (σ : io_M) (p1 : Int32) (p2 : Int32) (p3 : Int32) (post : io_M → Prop) (hw : wp_X8_assign σ p1 p2 p3 post) : Met l yX8_assign (.code yX8_assign cX8_assign 4 none :: io_tb) (io_rm 0) (va_Pc [.ref (ad 107), .int p1, .int p2, .int p3] (io_W D ca ad A σ)) (va_Qv post (io_W D ca ad A) A) 0 0 A := by
  refine Met.ofW (cc := cX8_assign) (maxL := 4) (ret := none) (by decide) rfl ?_
  intro p e s m args below meth c s₁ Bd hml hv
  obtain ⟨rfl, hW0⟩ := hv
  have Z := io_Z.start hW0
  have B : CallFix p m c cX8_assign 4 s _ io_tb RX8 := ⟨Bd.exec, Bd.bytes, hml, findClass_of_methodNamed Bd.named, fun w hw => atoms_spec (ws := (.code yX8_assign cX8_assign 4 none :: io_tb)) Bd.pre w (List.mem_cons_of_mem _ hw)⟩
  have hr := Bd.returns
  have hlk := Bd.notSynchronized
  have hl := lv_entry ([.ref (ad 107), .int p1, .int p2, .int p3]) (n := 4) (Nat.le_of_ble_eq_true rfl)
  rw [lg_entry_eq]
  generalize (lg_sl ([.ref (ad 107), .int p1, .int p2, .int p3]) ++ List.replicate (4 - (lg_sl ([.ref (ad 107), .int p1, .int p2, .int p3])).length) Slot.unset).toArray = ls at hl ⊢
  have hl : lv_has ls 4 [(0, .ref (ad 107)), (1, .int p1), (2, .int p2), (3, .int p3)] := hl
  show W p l e (io_rm 0) s m _ below meth c s.heap [] 0 0 _ (F0 m 0 ls [])
  unfold wp_X8_assign at hw
  refine lv_aload_n B.1 B.2.1 dX8_assign_0 rfl (lv_at hl 0 rfl) ?_
  refine io_g_8_5 B Z dX8_assign_1 ?_
  refine lv_iload_n B.1 B.2.1 dX8_assign_4 rfl (lv_at hl 1 rfl) ?_
  refine lv_iload_n B.1 B.2.1 dX8_assign_5 rfl (lv_at hl 2 rfl) ?_
  refine io_iast B Z 108 (by decide) io_e_108 hw.1 dX8_assign_6 (fun s2 H locs e3 Z => ?_)
  have hw := hw.2 s2 e3
  refine lv_aload_n B.1 B.2.1 dX8_assign_7 rfl (lv_at hl 0 rfl) ?_
  refine io_g_8_6 B Z dX8_assign_8 ?_
  refine lv_iload_n B.1 B.2.1 dX8_assign_11 rfl (lv_at hl 1 rfl) ?_
  refine lv_iload_n B.1 B.2.1 dX8_assign_12 rfl (lv_at hl 3 rfl) ?_
  refine io_iast B Z 109 (by decide) io_e_109 hw.1 dX8_assign_13 (fun s4 H locs e5 Z => ?_)
  have hw := hw.2 s4 e5
  exact io_ret_v B Z hr hlk hw dX8_assign_14
def wp_X8_workEnd (K : io_M → Int32 → Int32 → (Int32 → io_M → Prop) → Prop) (σ : io_M) (p1 : Int32) (p2 : Int32) (post : Int32 → io_M → Prop) : Prop := (((σ 107 7) = 5 → post 0 σ) ∧ (¬ ((σ 107 7) = 5) → (K σ p1 (p2 + 1) (fun r3 s4 => ((r3 = 0 → post 0 s4) ∧ (¬ (r3 = 0) → (∀ s7, s7 = io_up s4 107 7 (σ 107 7) → (∀ s9, s9 = io_up s7 107 8 (σ 107 8) → (∀ s11, s11 = io_up s9 107 9 (σ 107 9) → ((2 < (s11 107 7) → post 0 s11) ∧ (¬ (2 < (s11 107 7)) → post 1 s11)))))))))))
set_option maxHeartbeats 4000000 in
set_option maxRecDepth 100000 in
theorem io_c_X8_workEnd (l : Launch) (D : va_G) (ca : Nat → ClassId) (ad : Nat → Nat) (A : Nat → Prop) (N : Nat) (K : io_M → Int32 → Int32 → (Int32 → io_M → Prop) → Prop) (hK : ∀ (σ : io_M) (p1 p2 : Int32) (post : Int32 → io_M → Prop), K σ p1 p2 post → Met l yX8_work (.code yX8_work cX8_work 3 (some .boolean) :: io_tb) (io_rm (N + 10)) (va_Pc [.ref (ad 107), .int p1, .int p2] (io_W D ca ad A σ)) (va_Qi (fun r u => io_bl r ∧ post r u) (io_W D ca ad A) A) 0 0 A) (σ : io_M) (p1 : Int32) (p2 : Int32) (post : Int32 → io_M → Prop) (hw : wp_X8_workEnd K σ p1 p2 post) : Met l yX8_workEnd (.code yX8_workEnd cX8_workEnd 6 (some .boolean) :: io_tb) (io_rm (N + 11)) (va_Pc [.ref (ad 107), .int p1, .int p2] (io_W D ca ad A σ)) (va_Qi (fun r u => io_bl r ∧ post r u) (io_W D ca ad A) A) 0 0 A := by
  refine Met.ofW (cc := cX8_workEnd) (maxL := 6) (ret := (some .boolean)) (by decide) rfl ?_
  intro p e s m args below meth c s₁ Bd hml hv
  obtain ⟨rfl, hW0⟩ := hv
  have Z := io_Z.start hW0
  have B : CallFix p m c cX8_workEnd 6 s _ io_tb RX8 := ⟨Bd.exec, Bd.bytes, hml, findClass_of_methodNamed Bd.named, fun w hw => atoms_spec (ws := (.code yX8_workEnd cX8_workEnd 6 (some .boolean) :: io_tb)) Bd.pre w (List.mem_cons_of_mem _ hw)⟩
  have hr := Bd.returns
  have hlk := Bd.notSynchronized
  have hl := lv_entry ([.ref (ad 107), .int p1, .int p2]) (n := 6) (Nat.le_of_ble_eq_true rfl)
  rw [lg_entry_eq]
  generalize (lg_sl ([.ref (ad 107), .int p1, .int p2]) ++ List.replicate (6 - (lg_sl ([.ref (ad 107), .int p1, .int p2])).length) Slot.unset).toArray = ls at hl ⊢
  have hl : lv_has ls 6 [(0, .ref (ad 107)), (1, .int p1), (2, .int p2)] := hl
  show W p l e (io_rm (N + 11)) s m _ below meth c s.heap [] 0 0 _ (F0 m 0 ls [])
  unfold wp_X8_workEnd at hw
  refine lv_aload_n B.1 B.2.1 dX8_workEnd_0 rfl (lv_at hl 0 rfl) ?_
  refine io_g_8_7 B Z dX8_workEnd_1 ?_
  refine lv_iconst (v := 5) B.1 B.2.1 dX8_workEnd_4 (by decide) ?_
  refine lv_icmp_ne (tgt := 10) B.1 B.2.1 dX8_workEnd_5 (by decide) (fun k2 => ?_) (fun k2 => ?_)
  · have hw := hw.2 k2
    refine lv_aload_n B.1 B.2.1 dX8_workEnd_10 rfl (lv_at hl 0 rfl) ?_
    refine io_g_8_7 B Z dX8_workEnd_11 ?_
    refine lv_istore_n (lv' := [(3, .int (σ 107 7)), (0, .ref (ad 107)), (1, .int p1), (2, .int p2)]) B.1 B.2.1 dX8_workEnd_14 rfl hl (by decide) rfl (fun ls hl => ?_)
    refine lv_aload_n B.1 B.2.1 dX8_workEnd_15 rfl (lv_at hl 1 rfl) ?_
    refine io_g_8_8 B Z dX8_workEnd_16 ?_
    refine lv_istore (lv' := [(4, .int (σ 107 8)), (3, .int (σ 107 7)), (0, .ref (ad 107)), (1, .int p1), (2, .int p2)]) B.1 B.2.1 dX8_workEnd_19 hl (by decide) rfl (fun ls hl => ?_)
    refine lv_aload_n B.1 B.2.1 dX8_workEnd_21 rfl (lv_at hl 2 rfl) ?_
    refine io_g_8_9 B Z dX8_workEnd_22 ?_
    refine lv_istore (lv' := [(5, .int (σ 107 9)), (4, .int (σ 107 8)), (3, .int (σ 107 7)), (0, .ref (ad 107)), (1, .int p1), (2, .int p2)]) B.1 B.2.1 dX8_workEnd_25 hl (by decide) rfl (fun ls hl => ?_)
    refine lv_aload_n B.1 B.2.1 dX8_workEnd_27 rfl (lv_at hl 3 rfl) ?_
    refine lv_iload_n B.1 B.2.1 dX8_workEnd_28 rfl (lv_at hl 4 rfl) ?_
    refine lv_iload_n B.1 B.2.1 dX8_workEnd_29 rfl (lv_at hl 5 rfl) ?_
    refine lv_iconst (v := 1) B.1 B.2.1 dX8_workEnd_30 (by decide) ?_
    refine lv_iadd B.1 B.2.1 dX8_workEnd_31 ?_
    refine io_call_i Z (io_runV (ci := 8) (k := 107) [.int p1, .int (p2 + 1)] [] B Z (hK _ p1 (p2 + 1) _ hw) io_k_8_68 (io_hR (by omega) (by decide)) rfl (by decide) (io_e_107 _) rfl hl.1 (Nat.le_of_ble_eq_true rfl) dX8_workEnd_32 ⟨Nat.le_refl _, Nat.le_refl _⟩) (fun r3 s4 H locs hw Z => ?_)
    obtain ⟨b5, hw⟩ := hw
    refine lv_if_ne (tgt := 40) B.1 B.2.1 dX8_workEnd_35 (by decide) (fun k6 => ?_) (fun k6 => ?_)
    · have hw := hw.2 k6
      refine lv_aload_n B.1 B.2.1 dX8_workEnd_40 rfl (lv_at hl 3 rfl) ?_
      refine lv_iload_n B.1 B.2.1 dX8_workEnd_41 rfl (lv_at hl 2 rfl) ?_
      refine io_p_8_7 B Z dX8_workEnd_42 (fun s7 H locs e8 Z => ?_)
      have hw := hw s7 e8
      refine lv_aload_n B.1 B.2.1 dX8_workEnd_45 rfl (lv_at hl 3 rfl) ?_
      refine lv_iload B.1 B.2.1 dX8_workEnd_46 (lv_at hl 1 rfl) ?_
      refine io_p_8_8 B Z dX8_workEnd_48 (fun s9 H locs e10 Z => ?_)
      have hw := hw s9 e10
      refine lv_aload_n B.1 B.2.1 dX8_workEnd_51 rfl (lv_at hl 3 rfl) ?_
      refine lv_iload B.1 B.2.1 dX8_workEnd_52 (lv_at hl 0 rfl) ?_
      refine io_p_8_9 B Z dX8_workEnd_54 (fun s11 H locs e12 Z => ?_)
      have hw := hw s11 e12
      refine lv_aload_n B.1 B.2.1 dX8_workEnd_57 rfl (lv_at hl 3 rfl) ?_
      refine io_g_8_7 B Z dX8_workEnd_58 ?_
      refine lv_iconst (v := 2) B.1 B.2.1 dX8_workEnd_61 (by decide) ?_
      refine lv_icmp_gt (tgt := 69) B.1 B.2.1 dX8_workEnd_62 (by decide) (fun k13 => ?_) (fun k13 => ?_)
      · have hw := hw.1 k13
        refine lv_iconst (v := 0) B.1 B.2.1 dX8_workEnd_69 (by decide) ?_
        exact io_ret_z B Z hr hlk (Or.inl rfl) hw dX8_workEnd_70
      · have hw := hw.2 k13
        refine lv_iconst (v := 1) B.1 B.2.1 dX8_workEnd_65 (by decide) ?_
        refine lv_goto (tgt := 70) B.1 B.2.1 dX8_workEnd_66 (by decide) ?_
        exact io_ret_z B Z hr hlk (Or.inr rfl) hw dX8_workEnd_70
    · have hw := hw.1 k6
      refine lv_iconst (v := 0) B.1 B.2.1 dX8_workEnd_38 (by decide) ?_
      exact io_ret_z B Z hr hlk (Or.inl rfl) hw dX8_workEnd_39
  · have hw := hw.1 k2
    refine lv_iconst (v := 0) B.1 B.2.1 dX8_workEnd_8 (by decide) ?_
    exact io_ret_z B Z hr hlk (Or.inl rfl) hw dX8_workEnd_9
def wp_X8_workBracket (K : io_M → Int32 → Int32 → (Int32 → io_M → Prop) → Prop) (σ : io_M) (p1 : Int32) (p2 : Int32) (post : Int32 → io_M → Prop) : Prop := (wp_X7_first σ p1 (fun r2 s3 => (K s3 r2 (p2 + 1) (fun r4 s5 => ((r4 = 0 → post 0 s5) ∧ (¬ (r4 = 0) → (wp_X8_assign s5 5 (s5 107 7) (s5 107 8) (fun s9 => (wp_X7_third s9 p1 (fun r10 s11 => (K s11 r10 (p2 + 1) (fun r12 s13 => (wp_X8_assign s13 5 (s5 107 7) (s5 107 8) (fun s16 => (wp_X7_second s16 p1 (fun r17 s18 => (wp_X8_workEnd K s18 r17 p2 (fun r19 s20 => post r19 s20))))))))))))))))))
set_option maxHeartbeats 4000000 in
set_option maxRecDepth 100000 in
theorem io_c_X8_workBracket (l : Launch) (D : va_G) (ca : Nat → ClassId) (ad : Nat → Nat) (A : Nat → Prop) (N : Nat) (K : io_M → Int32 → Int32 → (Int32 → io_M → Prop) → Prop) (hK : ∀ (σ : io_M) (p1 p2 : Int32) (post : Int32 → io_M → Prop), K σ p1 p2 post → Met l yX8_work (.code yX8_work cX8_work 3 (some .boolean) :: io_tb) (io_rm (N + 10)) (va_Pc [.ref (ad 107), .int p1, .int p2] (io_W D ca ad A σ)) (va_Qi (fun r u => io_bl r ∧ post r u) (io_W D ca ad A) A) 0 0 A) (σ : io_M) (p1 : Int32) (p2 : Int32) (post : Int32 → io_M → Prop) (hw : wp_X8_workBracket K σ p1 p2 post) : Met l yX8_workBracket (.code yX8_workBracket cX8_workBracket 5 (some .boolean) :: io_tb) (io_rm (N + 12)) (va_Pc [.ref (ad 107), .int p1, .int p2] (io_W D ca ad A σ)) (va_Qi (fun r u => io_bl r ∧ post r u) (io_W D ca ad A) A) 0 0 A := by
  refine Met.ofW (cc := cX8_workBracket) (maxL := 5) (ret := (some .boolean)) (by decide) rfl ?_
  intro p e s m args below meth c s₁ Bd hml hv
  obtain ⟨rfl, hW0⟩ := hv
  have Z := io_Z.start hW0
  have B : CallFix p m c cX8_workBracket 5 s _ io_tb RX8 := ⟨Bd.exec, Bd.bytes, hml, findClass_of_methodNamed Bd.named, fun w hw => atoms_spec (ws := (.code yX8_workBracket cX8_workBracket 5 (some .boolean) :: io_tb)) Bd.pre w (List.mem_cons_of_mem _ hw)⟩
  have hr := Bd.returns
  have hlk := Bd.notSynchronized
  have hl := lv_entry ([.ref (ad 107), .int p1, .int p2]) (n := 5) (Nat.le_of_ble_eq_true rfl)
  rw [lg_entry_eq]
  generalize (lg_sl ([.ref (ad 107), .int p1, .int p2]) ++ List.replicate (5 - (lg_sl ([.ref (ad 107), .int p1, .int p2])).length) Slot.unset).toArray = ls at hl ⊢
  have hl : lv_has ls 5 [(0, .ref (ad 107)), (1, .int p1), (2, .int p2)] := hl
  show W p l e (io_rm (N + 12)) s m _ below meth c s.heap [] 0 0 _ (F0 m 0 ls [])
  unfold wp_X8_workBracket at hw
  refine lv_aload_n B.1 B.2.1 dX8_workBracket_0 rfl (lv_at hl 0 rfl) ?_
  refine lv_aload_n B.1 B.2.1 dX8_workBracket_1 rfl (lv_at hl 0 rfl) ?_
  refine io_g_8_0 B Z dX8_workBracket_2 ?_
  refine lv_iload_n B.1 B.2.1 dX8_workBracket_5 rfl (lv_at hl 1 rfl) ?_
  refine io_call_i Z (io_runV (ci := 7) (k := 96) [.int p1] [.ref (ad 107)] B Z (io_c_X7_first l D ca ad A _ p1 _ hw) io_k_8_85 (io_hR (by omega) (by decide)) rfl (by decide) (io_e_96 _) rfl hl.1 (Nat.le_of_ble_eq_true rfl) dX8_workBracket_6 ⟨Nat.le_refl _, Nat.le_refl _⟩) (fun r2 s3 H locs hw Z => ?_)
  refine lv_iload_n B.1 B.2.1 dX8_workBracket_9 rfl (lv_at hl 2 rfl) ?_
  refine lv_iconst (v := 1) B.1 B.2.1 dX8_workBracket_10 (by decide) ?_
  refine lv_iadd B.1 B.2.1 dX8_workBracket_11 ?_
  refine io_call_i Z (io_runV (ci := 8) (k := 107) [.int r2, .int (p2 + 1)] [] B Z (hK _ r2 (p2 + 1) _ hw) io_k_8_68 (io_hR (by omega) (by decide)) rfl (by decide) (io_e_107 _) rfl hl.1 (Nat.le_of_ble_eq_true rfl) dX8_workBracket_12 ⟨Nat.le_refl _, Nat.le_refl _⟩) (fun r4 s5 H locs hw Z => ?_)
  obtain ⟨b6, hw⟩ := hw
  refine lv_if_ne (tgt := 20) B.1 B.2.1 dX8_workBracket_15 (by decide) (fun k7 => ?_) (fun k7 => ?_)
  · have hw := hw.2 k7
    refine lv_aload_n B.1 B.2.1 dX8_workBracket_20 rfl (lv_at hl 0 rfl) ?_
    refine io_g_8_7 B Z dX8_workBracket_21 ?_
    refine lv_istore_n (lv' := [(3, .int (s5 107 7)), (0, .ref (ad 107)), (1, .int p1), (2, .int p2)]) B.1 B.2.1 dX8_workBracket_24 rfl hl (by decide) rfl (fun ls hl => ?_)
    refine lv_aload_n B.1 B.2.1 dX8_workBracket_25 rfl (lv_at hl 1 rfl) ?_
    refine io_g_8_8 B Z dX8_workBracket_26 ?_
    refine lv_istore (lv' := [(4, .int (s5 107 8)), (3, .int (s5 107 7)), (0, .ref (ad 107)), (1, .int p1), (2, .int p2)]) B.1 B.2.1 dX8_workBracket_29 hl (by decide) rfl (fun ls hl => ?_)
    refine lv_aload_n B.1 B.2.1 dX8_workBracket_31 rfl (lv_at hl 2 rfl) ?_
    refine lv_iconst (v := 5) B.1 B.2.1 dX8_workBracket_32 (by decide) ?_
    refine lv_iload_n B.1 B.2.1 dX8_workBracket_33 rfl (lv_at hl 1 rfl) ?_
    refine lv_iload B.1 B.2.1 dX8_workBracket_34 (lv_at hl 0 rfl) ?_
    refine io_call_v Z (io_runV (ci := 8) (k := 107) [.int 5, .int (s5 107 7), .int (s5 107 8)] [] B Z (io_c_X8_assign l D ca ad A _ 5 (s5 107 7) (s5 107 8) _ hw) io_k_8_149 (io_hR (by omega) (by decide)) rfl (by decide) (io_e_107 _) rfl hl.1 (Nat.le_of_ble_eq_true rfl) dX8_workBracket_36 ⟨Nat.le_refl _, Nat.le_refl _⟩) (fun s9 H locs hw Z => ?_)
    refine lv_aload_n B.1 B.2.1 dX8_workBracket_39 rfl (lv_at hl 2 rfl) ?_
    refine lv_aload_n B.1 B.2.1 dX8_workBracket_40 rfl (lv_at hl 2 rfl) ?_
    refine io_g_8_0 B Z dX8_workBracket_41 ?_
    refine lv_iload_n B.1 B.2.1 dX8_workBracket_44 rfl (lv_at hl 3 rfl) ?_
    refine io_call_i Z (io_runV (ci := 7) (k := 96) [.int p1] [.ref (ad 107)] B Z (io_c_X7_third l D ca ad A _ p1 _ hw) io_k_8_238 (io_hR (by omega) (by decide)) rfl (by decide) (io_e_96 _) rfl hl.1 (Nat.le_of_ble_eq_true rfl) dX8_workBracket_45 ⟨Nat.le_refl _, Nat.le_refl _⟩) (fun r10 s11 H locs hw Z => ?_)
    refine lv_iload_n B.1 B.2.1 dX8_workBracket_48 rfl (lv_at hl 4 rfl) ?_
    refine lv_iconst (v := 1) B.1 B.2.1 dX8_workBracket_49 (by decide) ?_
    refine lv_iadd B.1 B.2.1 dX8_workBracket_50 ?_
    refine io_call_i Z (io_runV (ci := 8) (k := 107) [.int r10, .int (p2 + 1)] [] B Z (hK _ r10 (p2 + 1) _ hw) io_k_8_68 (io_hR (by omega) (by decide)) rfl (by decide) (io_e_107 _) rfl hl.1 (Nat.le_of_ble_eq_true rfl) dX8_workBracket_51 ⟨Nat.le_refl _, Nat.le_refl _⟩) (fun r12 s13 H locs hw Z => ?_)
    obtain ⟨b14, hw⟩ := hw
    refine lv_pop B.1 B.2.1 dX8_workBracket_54 rfl ?_
    refine lv_aload_n B.1 B.2.1 dX8_workBracket_55 rfl (lv_at hl 2 rfl) ?_
    refine lv_iconst (v := 5) B.1 B.2.1 dX8_workBracket_56 (by decide) ?_
    refine lv_iload_n B.1 B.2.1 dX8_workBracket_57 rfl (lv_at hl 1 rfl) ?_
    refine lv_iload B.1 B.2.1 dX8_workBracket_58 (lv_at hl 0 rfl) ?_
    refine io_call_v Z (io_runV (ci := 8) (k := 107) [.int 5, .int (s5 107 7), .int (s5 107 8)] [] B Z (io_c_X8_assign l D ca ad A _ 5 (s5 107 7) (s5 107 8) _ hw) io_k_8_149 (io_hR (by omega) (by decide)) rfl (by decide) (io_e_107 _) rfl hl.1 (Nat.le_of_ble_eq_true rfl) dX8_workBracket_60 ⟨Nat.le_refl _, Nat.le_refl _⟩) (fun s16 H locs hw Z => ?_)
    refine lv_aload_n B.1 B.2.1 dX8_workBracket_63 rfl (lv_at hl 2 rfl) ?_
    refine lv_aload_n B.1 B.2.1 dX8_workBracket_64 rfl (lv_at hl 2 rfl) ?_
    refine io_g_8_0 B Z dX8_workBracket_65 ?_
    refine lv_iload_n B.1 B.2.1 dX8_workBracket_68 rfl (lv_at hl 3 rfl) ?_
    refine io_call_i Z (io_runV (ci := 7) (k := 96) [.int p1] [.ref (ad 107)] B Z (io_c_X7_second l D ca ad A _ p1 _ hw) io_k_8_110 (io_hR (by omega) (by decide)) rfl (by decide) (io_e_96 _) rfl hl.1 (Nat.le_of_ble_eq_true rfl) dX8_workBracket_69 ⟨Nat.le_refl _, Nat.le_refl _⟩) (fun r17 s18 H locs hw Z => ?_)
    refine lv_iload_n B.1 B.2.1 dX8_workBracket_72 rfl (lv_at hl 4 rfl) ?_
    refine io_call_i Z (io_runV (ci := 8) (k := 107) [.int r17, .int p2] [] B Z (io_c_X8_workEnd l D ca ad A N K hK _ r17 p2 _ hw) io_k_8_122 (io_hR (by omega) (by decide)) rfl (by decide) (io_e_107 _) rfl hl.1 (Nat.le_of_ble_eq_true rfl) dX8_workBracket_73 ⟨Nat.le_refl _, Nat.le_refl _⟩) (fun r19 s20 H locs hw Z => ?_)
    obtain ⟨b21, hw⟩ := hw
    exact io_ret_z B Z hr hlk b21 hw dX8_workBracket_76
  · have hw := hw.1 k7
    refine lv_iconst (v := 0) B.1 B.2.1 dX8_workBracket_18 (by decide) ?_
    exact io_ret_z B Z hr hlk (Or.inl rfl) hw dX8_workBracket_19
def wp_X8_workCatch (K : io_M → Int32 → Int32 → (Int32 → io_M → Prop) → Prop) (σ : io_M) (p1 : Int32) (p2 : Int32) (post : Int32 → io_M → Prop) : Prop := (wp_X7_first σ p1 (fun r2 s3 => (K s3 r2 (p2 + 1) (fun r4 s5 => ((r4 = 0 → (((s5 107 7) = 3 → (wp_X7_third s5 p1 (fun r9 s10 => ((((r9 >>> ((s10 107 8) &&& 31)) &&& 1) = 0 → post 0 s10) ∧ (¬ (((r9 >>> ((s10 107 8) &&& 31)) &&& 1) = 0) → (wp_X8_assign s10 0 0 (s10 107 8) (fun s13 => (wp_X7_second s13 p1 (fun r14 s15 => (K s15 r14 (p2 + 1) (fun r16 s17 => post r16 s17))))))))))) ∧ (¬ ((s5 107 7) = 3) → post 0 s5))) ∧ (¬ (r4 = 0) → post 1 s5))))))
set_option maxHeartbeats 4000000 in
set_option maxRecDepth 100000 in
theorem io_c_X8_workCatch (l : Launch) (D : va_G) (ca : Nat → ClassId) (ad : Nat → Nat) (A : Nat → Prop) (N : Nat) (K : io_M → Int32 → Int32 → (Int32 → io_M → Prop) → Prop) (hK : ∀ (σ : io_M) (p1 p2 : Int32) (post : Int32 → io_M → Prop), K σ p1 p2 post → Met l yX8_work (.code yX8_work cX8_work 3 (some .boolean) :: io_tb) (io_rm (N + 10)) (va_Pc [.ref (ad 107), .int p1, .int p2] (io_W D ca ad A σ)) (va_Qi (fun r u => io_bl r ∧ post r u) (io_W D ca ad A) A) 0 0 A) (σ : io_M) (p1 : Int32) (p2 : Int32) (post : Int32 → io_M → Prop) (hw : wp_X8_workCatch K σ p1 p2 post) : Met l yX8_workCatch (.code yX8_workCatch cX8_workCatch 3 (some .boolean) :: io_tb) (io_rm (N + 11)) (va_Pc [.ref (ad 107), .int p1, .int p2] (io_W D ca ad A σ)) (va_Qi (fun r u => io_bl r ∧ post r u) (io_W D ca ad A) A) 0 0 A := by
  refine Met.ofW (cc := cX8_workCatch) (maxL := 3) (ret := (some .boolean)) (by decide) rfl ?_
  intro p e s m args below meth c s₁ Bd hml hv
  obtain ⟨rfl, hW0⟩ := hv
  have Z := io_Z.start hW0
  have B : CallFix p m c cX8_workCatch 3 s _ io_tb RX8 := ⟨Bd.exec, Bd.bytes, hml, findClass_of_methodNamed Bd.named, fun w hw => atoms_spec (ws := (.code yX8_workCatch cX8_workCatch 3 (some .boolean) :: io_tb)) Bd.pre w (List.mem_cons_of_mem _ hw)⟩
  have hr := Bd.returns
  have hlk := Bd.notSynchronized
  have hl := lv_entry ([.ref (ad 107), .int p1, .int p2]) (n := 3) (Nat.le_of_ble_eq_true rfl)
  rw [lg_entry_eq]
  generalize (lg_sl ([.ref (ad 107), .int p1, .int p2]) ++ List.replicate (3 - (lg_sl ([.ref (ad 107), .int p1, .int p2])).length) Slot.unset).toArray = ls at hl ⊢
  have hl : lv_has ls 3 [(0, .ref (ad 107)), (1, .int p1), (2, .int p2)] := hl
  show W p l e (io_rm (N + 11)) s m _ below meth c s.heap [] 0 0 _ (F0 m 0 ls [])
  unfold wp_X8_workCatch at hw
  refine lv_aload_n B.1 B.2.1 dX8_workCatch_0 rfl (lv_at hl 0 rfl) ?_
  refine lv_aload_n B.1 B.2.1 dX8_workCatch_1 rfl (lv_at hl 0 rfl) ?_
  refine io_g_8_0 B Z dX8_workCatch_2 ?_
  refine lv_iload_n B.1 B.2.1 dX8_workCatch_5 rfl (lv_at hl 1 rfl) ?_
  refine io_call_i Z (io_runV (ci := 7) (k := 96) [.int p1] [.ref (ad 107)] B Z (io_c_X7_first l D ca ad A _ p1 _ hw) io_k_8_85 (io_hR (by omega) (by decide)) rfl (by decide) (io_e_96 _) rfl hl.1 (Nat.le_of_ble_eq_true rfl) dX8_workCatch_6 ⟨Nat.le_refl _, Nat.le_refl _⟩) (fun r2 s3 H locs hw Z => ?_)
  refine lv_iload_n B.1 B.2.1 dX8_workCatch_9 rfl (lv_at hl 2 rfl) ?_
  refine lv_iconst (v := 1) B.1 B.2.1 dX8_workCatch_10 (by decide) ?_
  refine lv_iadd B.1 B.2.1 dX8_workCatch_11 ?_
  refine io_call_i Z (io_runV (ci := 8) (k := 107) [.int r2, .int (p2 + 1)] [] B Z (hK _ r2 (p2 + 1) _ hw) io_k_8_68 (io_hR (by omega) (by decide)) rfl (by decide) (io_e_107 _) rfl hl.1 (Nat.le_of_ble_eq_true rfl) dX8_workCatch_12 ⟨Nat.le_refl _, Nat.le_refl _⟩) (fun r4 s5 H locs hw Z => ?_)
  obtain ⟨b6, hw⟩ := hw
  refine lv_if_eq (tgt := 20) B.1 B.2.1 dX8_workCatch_15 (by decide) (fun k7 => ?_) (fun k7 => ?_)
  · have hw := hw.1 k7
    refine lv_aload_n B.1 B.2.1 dX8_workCatch_20 rfl (lv_at hl 0 rfl) ?_
    refine io_g_8_7 B Z dX8_workCatch_21 ?_
    refine lv_iconst (v := 3) B.1 B.2.1 dX8_workCatch_24 (by decide) ?_
    refine lv_icmp_ne (tgt := 46) B.1 B.2.1 dX8_workCatch_25 (by decide) (fun k8 => ?_) (fun k8 => ?_)
    · have hw := hw.2 k8
      refine lv_iconst (v := 0) B.1 B.2.1 dX8_workCatch_46 (by decide) ?_
      exact io_ret_z B Z hr hlk (Or.inl rfl) hw dX8_workCatch_47
    · have hw := hw.1 k8
      refine lv_aload_n B.1 B.2.1 dX8_workCatch_28 rfl (lv_at hl 0 rfl) ?_
      refine io_g_8_0 B Z dX8_workCatch_29 ?_
      refine lv_iload_n B.1 B.2.1 dX8_workCatch_32 rfl (lv_at hl 1 rfl) ?_
      refine io_call_i Z (io_runV (ci := 7) (k := 96) [.int p1] [] B Z (io_c_X7_third l D ca ad A _ p1 _ hw) io_k_8_238 (io_hR (by omega) (by decide)) rfl (by decide) (io_e_96 _) rfl hl.1 (Nat.le_of_ble_eq_true rfl) dX8_workCatch_33 ⟨Nat.le_refl _, Nat.le_refl _⟩) (fun r9 s10 H locs hw Z => ?_)
      refine lv_aload_n B.1 B.2.1 dX8_workCatch_36 rfl (lv_at hl 0 rfl) ?_
      refine io_g_8_8 B Z dX8_workCatch_37 ?_
      refine lv_ishr B.1 B.2.1 dX8_workCatch_40 ?_
      refine lv_iconst (v := 1) B.1 B.2.1 dX8_workCatch_41 (by decide) ?_
      refine lv_iand B.1 B.2.1 dX8_workCatch_42 ?_
      refine lv_if_ne (tgt := 48) B.1 B.2.1 dX8_workCatch_43 (by decide) (fun k11 => ?_) (fun k11 => ?_)
      · have hw := hw.2 k11
        refine lv_aload_n B.1 B.2.1 dX8_workCatch_48 rfl (lv_at hl 0 rfl) ?_
        refine lv_iconst (v := 0) B.1 B.2.1 dX8_workCatch_49 (by decide) ?_
        refine lv_iconst (v := 0) B.1 B.2.1 dX8_workCatch_50 (by decide) ?_
        refine lv_aload_n B.1 B.2.1 dX8_workCatch_51 rfl (lv_at hl 0 rfl) ?_
        refine io_g_8_8 B Z dX8_workCatch_52 ?_
        refine io_call_v Z (io_runV (ci := 8) (k := 107) [.int 0, .int 0, .int (s10 107 8)] [] B Z (io_c_X8_assign l D ca ad A _ 0 0 (s10 107 8) _ hw) io_k_8_149 (io_hR (by omega) (by decide)) rfl (by decide) (io_e_107 _) rfl hl.1 (Nat.le_of_ble_eq_true rfl) dX8_workCatch_55 ⟨Nat.le_refl _, Nat.le_refl _⟩) (fun s13 H locs hw Z => ?_)
        refine lv_aload_n B.1 B.2.1 dX8_workCatch_58 rfl (lv_at hl 0 rfl) ?_
        refine lv_aload_n B.1 B.2.1 dX8_workCatch_59 rfl (lv_at hl 0 rfl) ?_
        refine io_g_8_0 B Z dX8_workCatch_60 ?_
        refine lv_iload_n B.1 B.2.1 dX8_workCatch_63 rfl (lv_at hl 1 rfl) ?_
        refine io_call_i Z (io_runV (ci := 7) (k := 96) [.int p1] [.ref (ad 107)] B Z (io_c_X7_second l D ca ad A _ p1 _ hw) io_k_8_110 (io_hR (by omega) (by decide)) rfl (by decide) (io_e_96 _) rfl hl.1 (Nat.le_of_ble_eq_true rfl) dX8_workCatch_64 ⟨Nat.le_refl _, Nat.le_refl _⟩) (fun r14 s15 H locs hw Z => ?_)
        refine lv_iload_n B.1 B.2.1 dX8_workCatch_67 rfl (lv_at hl 2 rfl) ?_
        refine lv_iconst (v := 1) B.1 B.2.1 dX8_workCatch_68 (by decide) ?_
        refine lv_iadd B.1 B.2.1 dX8_workCatch_69 ?_
        refine io_call_i Z (io_runV (ci := 8) (k := 107) [.int r14, .int (p2 + 1)] [] B Z (hK _ r14 (p2 + 1) _ hw) io_k_8_68 (io_hR (by omega) (by decide)) rfl (by decide) (io_e_107 _) rfl hl.1 (Nat.le_of_ble_eq_true rfl) dX8_workCatch_70 ⟨Nat.le_refl _, Nat.le_refl _⟩) (fun r16 s17 H locs hw Z => ?_)
        obtain ⟨b18, hw⟩ := hw
        exact io_ret_z B Z hr hlk b18 hw dX8_workCatch_73
      · have hw := hw.1 k11
        refine lv_iconst (v := 0) B.1 B.2.1 dX8_workCatch_46 (by decide) ?_
        exact io_ret_z B Z hr hlk (Or.inl rfl) hw dX8_workCatch_47
  · have hw := hw.2 k7
    refine lv_iconst (v := 1) B.1 B.2.1 dX8_workCatch_18 (by decide) ?_
    exact io_ret_z B Z hr hlk (Or.inr rfl) hw dX8_workCatch_19
def wp_X8_noteClosing (σ : io_M) (p1 : Int32) (k2 : Nat) (post : io_M → Prop) : Prop := (wp_X2_isClosed σ k2 (fun r2 s3 => ((r2 = 0 → (wp_X4_note s3 p1 (fun s7 => post s7))) ∧ (¬ (r2 = 0) → post s3))))
set_option maxHeartbeats 4000000 in
set_option maxRecDepth 100000 in
theorem io_c_X8_noteClosing (l : Launch) (D : va_G) (ca : Nat → ClassId) (ad : Nat → Nat) (A : Nat → Prop) (σ : io_M) (p1 : Int32) (k2 : Nat) (hk2 : k2 < 20) (post : io_M → Prop) (hw : wp_X8_noteClosing σ p1 k2 post) : Met l yX8_noteClosing (.code yX8_noteClosing cX8_noteClosing 3 none :: io_tb) (io_rm 1) (va_Pc [.ref (ad 107), .int p1, .ref (ad k2)] (io_W D ca ad A σ)) (va_Qv post (io_W D ca ad A) A) 0 0 A := by
  refine Met.ofW (cc := cX8_noteClosing) (maxL := 3) (ret := none) (by decide) rfl ?_
  intro p e s m args below meth c s₁ Bd hml hv
  obtain ⟨rfl, hW0⟩ := hv
  have Z := io_Z.start hW0
  have B : CallFix p m c cX8_noteClosing 3 s _ io_tb RX8 := ⟨Bd.exec, Bd.bytes, hml, findClass_of_methodNamed Bd.named, fun w hw => atoms_spec (ws := (.code yX8_noteClosing cX8_noteClosing 3 none :: io_tb)) Bd.pre w (List.mem_cons_of_mem _ hw)⟩
  have hr := Bd.returns
  have hlk := Bd.notSynchronized
  have hl := lv_entry ([.ref (ad 107), .int p1, .ref (ad k2)]) (n := 3) (Nat.le_of_ble_eq_true rfl)
  rw [lg_entry_eq]
  generalize (lg_sl ([.ref (ad 107), .int p1, .ref (ad k2)]) ++ List.replicate (3 - (lg_sl ([.ref (ad 107), .int p1, .ref (ad k2)])).length) Slot.unset).toArray = ls at hl ⊢
  have hl : lv_has ls 3 [(0, .ref (ad 107)), (1, .int p1), (2, .ref (ad k2))] := hl
  show W p l e (io_rm 1) s m _ below meth c s.heap [] 0 0 _ (F0 m 0 ls [])
  unfold wp_X8_noteClosing at hw
  refine lv_aload_n B.1 B.2.1 dX8_noteClosing_0 rfl (lv_at hl 2 rfl) ?_
  refine io_call_i Z (io_runV (ci := 2) (k := k2) [] [] B Z (io_c_X2_isClosed l D ca ad A _ k2 hk2 _ hw) io_k_8_189 (io_hR (by decide) (by decide)) rfl (Nat.lt_trans hk2 (by decide)) (io_e2 hk2 _) rfl hl.1 (Nat.le_of_ble_eq_true rfl) dX8_noteClosing_1 ⟨Nat.le_refl _, Nat.le_refl _⟩) (fun r2 s3 H locs hw Z => ?_)
  obtain ⟨b4, hw⟩ := hw
  refine lv_if_ne (tgt := 15) B.1 B.2.1 dX8_noteClosing_4 (by decide) (fun k5 => ?_) (fun k5 => ?_)
  · have hw := hw.2 k5
    exact io_ret_v B Z hr hlk hw dX8_noteClosing_15
  · have hw := hw.1 k5
    refine lv_aload_n B.1 B.2.1 dX8_noteClosing_7 rfl (lv_at hl 0 rfl) ?_
    refine io_g_8_4 B Z dX8_noteClosing_8 ?_
    refine lv_iload_n B.1 B.2.1 dX8_noteClosing_11 rfl (lv_at hl 1 rfl) ?_
    refine io_call_v Z (io_runV (ci := 4) (k := 105) [.int p1] [] B Z (io_c_X4_note l D ca ad A _ p1 _ hw) io_k_8_134 (io_hR (by decide) (by decide)) rfl (by decide) (io_e_105 _) rfl hl.1 (Nat.le_of_ble_eq_true rfl) dX8_noteClosing_12 ⟨Nat.le_refl _, Nat.le_refl _⟩) (fun s7 H locs hw Z => ?_)
    exact io_ret_v B Z hr hlk hw dX8_noteClosing_15
def wp_X8_workToHandle (K : io_M → Int32 → Int32 → (Int32 → io_M → Prop) → Prop) (σ : io_M) (p1 : Int32) (p2 : Int32) (p3 : Int32) (post : Option Nat → io_M → Prop) : Prop := (K σ p1 (p3 + 1) (fun r2 s3 => ((r2 = 0 → post none s3) ∧ (¬ (r2 = 0) → (((s3 107 7) = 1 → (wp_X3_pick s3 (s3 107 8) (fun o12 s11 => (o12 = none → (wp_X8_fail s11 4 p2 (fun r15 s16 => post none s16))) ∧ (∀ i14, o12 = some i14 → (post (some i14) s11))))) ∧ (¬ ((s3 107 7) = 1) → (wp_X8_fail s3 4 p2 (fun r7 s8 => post none s8))))))))
set_option maxHeartbeats 4000000 in
set_option maxRecDepth 100000 in
theorem io_c_X8_workToHandle (l : Launch) (D : va_G) (ca : Nat → ClassId) (ad : Nat → Nat) (A : Nat → Prop) (N : Nat) (K : io_M → Int32 → Int32 → (Int32 → io_M → Prop) → Prop) (hK : ∀ (σ : io_M) (p1 p2 : Int32) (post : Int32 → io_M → Prop), K σ p1 p2 post → Met l yX8_work (.code yX8_work cX8_work 3 (some .boolean) :: io_tb) (io_rm (N + 10)) (va_Pc [.ref (ad 107), .int p1, .int p2] (io_W D ca ad A σ)) (va_Qi (fun r u => io_bl r ∧ post r u) (io_W D ca ad A) A) 0 0 A) (σ : io_M) (p1 : Int32) (p2 : Int32) (p3 : Int32) (post : Option Nat → io_M → Prop) (hw : wp_X8_workToHandle K σ p1 p2 p3 post) : Met l yX8_workToHandle (.code yX8_workToHandle cX8_workToHandle 5 (some (.object "InputOutput$Handle")) :: io_tb) (io_rm (N + 11)) (va_Pc [.ref (ad 107), .int p1, .int p2, .int p3] (io_W D ca ad A σ)) (va_Qq (fun r u => ∃ o : Option Nat, r = o.map (fun i => ad (0 + i)) ∧ (∀ i, o = some i → i < 20) ∧ post o u) (io_W D ca ad A) A) 0 0 A := by
  refine Met.ofW (cc := cX8_workToHandle) (maxL := 5) (ret := (some (.object "InputOutput$Handle"))) (by decide) rfl ?_
  intro p e s m args below meth c s₁ Bd hml hv
  obtain ⟨rfl, hW0⟩ := hv
  have Z := io_Z.start hW0
  have B : CallFix p m c cX8_workToHandle 5 s _ io_tb RX8 := ⟨Bd.exec, Bd.bytes, hml, findClass_of_methodNamed Bd.named, fun w hw => atoms_spec (ws := (.code yX8_workToHandle cX8_workToHandle 5 (some (.object "InputOutput$Handle")) :: io_tb)) Bd.pre w (List.mem_cons_of_mem _ hw)⟩
  have hr := Bd.returns
  have hlk := Bd.notSynchronized
  have hl := lv_entry ([.ref (ad 107), .int p1, .int p2, .int p3]) (n := 5) (Nat.le_of_ble_eq_true rfl)
  rw [lg_entry_eq]
  generalize (lg_sl ([.ref (ad 107), .int p1, .int p2, .int p3]) ++ List.replicate (5 - (lg_sl ([.ref (ad 107), .int p1, .int p2, .int p3])).length) Slot.unset).toArray = ls at hl ⊢
  have hl : lv_has ls 5 [(0, .ref (ad 107)), (1, .int p1), (2, .int p2), (3, .int p3)] := hl
  show W p l e (io_rm (N + 11)) s m _ below meth c s.heap [] 0 0 _ (F0 m 0 ls [])
  unfold wp_X8_workToHandle at hw
  refine lv_aload_n B.1 B.2.1 dX8_workToHandle_0 rfl (lv_at hl 0 rfl) ?_
  refine lv_iload_n B.1 B.2.1 dX8_workToHandle_1 rfl (lv_at hl 1 rfl) ?_
  refine lv_iload_n B.1 B.2.1 dX8_workToHandle_2 rfl (lv_at hl 3 rfl) ?_
  refine lv_iconst (v := 1) B.1 B.2.1 dX8_workToHandle_3 (by decide) ?_
  refine lv_iadd B.1 B.2.1 dX8_workToHandle_4 ?_
  refine io_call_i Z (io_runV (ci := 8) (k := 107) [.int p1, .int (p3 + 1)] [] B Z (hK _ p1 (p3 + 1) _ hw) io_k_8_68 (io_hR (by omega) (by decide)) rfl (by decide) (io_e_107 _) rfl hl.1 (Nat.le_of_ble_eq_true rfl) dX8_workToHandle_5 ⟨Nat.le_refl _, Nat.le_refl _⟩) (fun r2 s3 H locs hw Z => ?_)
  obtain ⟨b4, hw⟩ := hw
  refine lv_if_ne (tgt := 13) B.1 B.2.1 dX8_workToHandle_8 (by decide) (fun k5 => ?_) (fun k5 => ?_)
  · have hw := hw.2 k5
    refine lv_aload_n B.1 B.2.1 dX8_workToHandle_13 rfl (lv_at hl 0 rfl) ?_
    refine io_g_8_7 B Z dX8_workToHandle_14 ?_
    refine lv_iconst (v := 1) B.1 B.2.1 dX8_workToHandle_17 (by decide) ?_
    refine lv_icmp_ne (tgt := 35) B.1 B.2.1 dX8_workToHandle_18 (by decide) (fun k6 => ?_) (fun k6 => ?_)
    · have hw := hw.2 k6
      refine lv_null B.1 B.2.1 dX8_workToHandle_35 ?_
      refine lv_astoreN (lv' := [(4, .null), (0, .ref (ad 107)), (1, .int p1), (2, .int p2), (3, .int p3)]) B.1 B.2.1 dX8_workToHandle_36 hl (by decide) rfl (fun ls hl => ?_)
      refine lv_aloadN B.1 B.2.1 dX8_workToHandle_38 (lv_at hl 0 rfl) ?_
      refine lv_ifnonnullN B.1 B.2.1 dX8_workToHandle_40 ?_
      refine lv_aload_n B.1 B.2.1 dX8_workToHandle_43 rfl (lv_at hl 1 rfl) ?_
      refine lv_iconst (v := 4) B.1 B.2.1 dX8_workToHandle_44 (by decide) ?_
      refine lv_iload_n B.1 B.2.1 dX8_workToHandle_45 rfl (lv_at hl 3 rfl) ?_
      refine io_call_i Z (io_runV (ci := 8) (k := 107) [.int 4, .int p2] [] B Z (io_c_X8_fail l D ca ad A _ 4 p2 _ hw) io_k_8_116 (io_hR (by omega) (by decide)) rfl (by decide) (io_e_107 _) rfl hl.1 (Nat.le_of_ble_eq_true rfl) dX8_workToHandle_46 ⟨Nat.le_refl _, Nat.le_refl _⟩) (fun r7 s8 H locs hw Z => ?_)
      obtain ⟨b9, hw⟩ := hw
      refine lv_pop B.1 B.2.1 dX8_workToHandle_49 rfl ?_
      refine lv_aloadN B.1 B.2.1 dX8_workToHandle_50 (lv_at hl 0 rfl) ?_
      exact io_ret_n B Z hr hlk hw dX8_workToHandle_52
    · have hw := hw.1 k6
      refine lv_aload_n B.1 B.2.1 dX8_workToHandle_21 rfl (lv_at hl 0 rfl) ?_
      refine io_g_8_2 B Z dX8_workToHandle_22 ?_
      refine lv_aload_n B.1 B.2.1 dX8_workToHandle_25 rfl (lv_at hl 0 rfl) ?_
      refine io_g_8_8 B Z dX8_workToHandle_26 ?_
      refine io_call_q Z (io_runV (ci := 3) (k := 101) [.int (s3 107 8)] [] B Z (io_c_X3_pick l D ca ad A _ (s3 107 8) _ hw) io_k_8_142 (io_hR (by omega) (by decide)) rfl (by decide) (io_e_101 _) rfl hl.1 (Nat.le_of_ble_eq_true rfl) dX8_workToHandle_29 ⟨Nat.le_refl _, Nat.le_refl _⟩) (fun r10 s11 H locs hw Z => ?_)
      obtain ⟨o12, e_r10, h13, hw⟩ := hw
      subst e_r10
      rcases o12 with _ | i14
      · have hw := hw.1 rfl
        show W _ _ _ _ _ _ _ _ _ _ _ _ _ _ _ (F0 _ _ _ (Value.null :: _))
        refine lv_goto (tgt := 36) B.1 B.2.1 dX8_workToHandle_32 (by decide) ?_
        refine lv_astoreN (lv' := [(4, .null), (0, .ref (ad 107)), (1, .int p1), (2, .int p2), (3, .int p3)]) B.1 B.2.1 dX8_workToHandle_36 hl (by decide) rfl (fun ls hl => ?_)
        refine lv_aloadN B.1 B.2.1 dX8_workToHandle_38 (lv_at hl 0 rfl) ?_
        refine lv_ifnonnullN B.1 B.2.1 dX8_workToHandle_40 ?_
        refine lv_aload_n B.1 B.2.1 dX8_workToHandle_43 rfl (lv_at hl 1 rfl) ?_
        refine lv_iconst (v := 4) B.1 B.2.1 dX8_workToHandle_44 (by decide) ?_
        refine lv_iload_n B.1 B.2.1 dX8_workToHandle_45 rfl (lv_at hl 3 rfl) ?_
        refine io_call_i Z (io_runV (ci := 8) (k := 107) [.int 4, .int p2] [] B Z (io_c_X8_fail l D ca ad A _ 4 p2 _ hw) io_k_8_116 (io_hR (by omega) (by decide)) rfl (by decide) (io_e_107 _) rfl hl.1 (Nat.le_of_ble_eq_true rfl) dX8_workToHandle_46 ⟨Nat.le_refl _, Nat.le_refl _⟩) (fun r15 s16 H locs hw Z => ?_)
        obtain ⟨b17, hw⟩ := hw
        refine lv_pop B.1 B.2.1 dX8_workToHandle_49 rfl ?_
        refine lv_aloadN B.1 B.2.1 dX8_workToHandle_50 (lv_at hl 0 rfl) ?_
        exact io_ret_n B Z hr hlk hw dX8_workToHandle_52
      · have hw := hw.2 i14 rfl
        have h13 := h13 _ rfl
        show W _ _ _ _ _ _ _ _ _ _ _ _ _ _ _ (F0 _ _ _ (Value.ref (ad (0 + i14)) :: _))
        rw [Nat.zero_add i14]
        refine lv_goto (tgt := 36) B.1 B.2.1 dX8_workToHandle_32 (by decide) ?_
        refine lv_astore (lv' := [(4, .ref (ad i14)), (0, .ref (ad 107)), (1, .int p1), (2, .int p2), (3, .int p3)]) B.1 B.2.1 dX8_workToHandle_36 hl (by decide) rfl (fun ls hl => ?_)
        refine lv_aload B.1 B.2.1 dX8_workToHandle_38 (lv_at hl 0 rfl) ?_
        refine lv_ifnonnull (tgt := 50) B.1 B.2.1 dX8_workToHandle_40 (by decide) ?_
        refine lv_aload B.1 B.2.1 dX8_workToHandle_50 (lv_at hl 0 rfl) ?_
        exact io_ret_r0 B Z hr hlk h13 hw dX8_workToHandle_52
  · have hw := hw.1 k5
    refine lv_null B.1 B.2.1 dX8_workToHandle_11 ?_
    exact io_ret_n B Z hr hlk hw dX8_workToHandle_12
def wp_X8_workHandle (K : io_M → Int32 → Int32 → (Int32 → io_M → Prop) → Prop) (σ : io_M) (p1 : Int32) (p2 : Int32) (post : Int32 → io_M → Prop) : Prop := (wp_X7_first σ p1 (fun r2 s3 => (wp_X8_workToHandle K s3 r2 p1 p2 (fun o6 s5 => (o6 = none → post 0 s5) ∧ (∀ i8, o6 = some i8 → (wp_X7_code s5 p1 (fun r9 s10 => ((r9 = 4 → (wp_X8_noteClosing s10 p1 i8 (fun s13 => (wp_X2_close s13 i8 (fun r14 s15 => (wp_X8_settle s15 p1 0 r14 (fun r16 s17 => post r16 s17))))))) ∧ (¬ (r9 = 4) → ((r9 = 6 → (wp_X2_take s10 i8 (fun r20 s21 => (wp_X8_act s21 p1 0 r20 (fun r22 s23 => post r22 s23))))) ∧ (¬ (r9 = 6) → ((r9 = 7 → (wp_X6_begin s10 i8 (fun r26 s27 => (wp_X8_settle s27 p1 2 r26 (fun r28 s29 => post r28 s29))))) ∧ (¬ (r9 = 7) → ((r9 = 11 → (wp_X2_tellPlace s10 i8 (fun r32 s33 => (wp_X8_settle s33 p1 0 r32 (fun r34 s35 => post r34 s35))))) ∧ (¬ (r9 = 11) → ((r9 = 12 → (wp_X2_measure s10 i8 (fun r38 s39 => (wp_X8_settle s39 p1 0 r38 (fun r40 s41 => post r40 s41))))) ∧ (¬ (r9 = 12) → ((r9 = 13 → (wp_X7_second s10 p1 (fun r44 s45 => (wp_X2_changeBuffer s45 i8 r44 (fun r46 s47 => (wp_X8_act s47 p1 0 r46 (fun r48 s49 => post r48 s49))))))) ∧ (¬ (r9 = 13) → (wp_X2_flush s10 i8 (fun r51 s52 => (wp_X8_act s52 p1 0 r51 (fun r53 s54 => post r53 s54)))))))))))))))))))))))
set_option maxHeartbeats 4000000 in
set_option maxRecDepth 100000 in
theorem io_c_X8_workHandle (l : Launch) (D : va_G) (ca : Nat → ClassId) (ad : Nat → Nat) (A : Nat → Prop) (N : Nat) (K : io_M → Int32 → Int32 → (Int32 → io_M → Prop) → Prop) (hK : ∀ (σ : io_M) (p1 p2 : Int32) (post : Int32 → io_M → Prop), K σ p1 p2 post → Met l yX8_work (.code yX8_work cX8_work 3 (some .boolean) :: io_tb) (io_rm (N + 10)) (va_Pc [.ref (ad 107), .int p1, .int p2] (io_W D ca ad A σ)) (va_Qi (fun r u => io_bl r ∧ post r u) (io_W D ca ad A) A) 0 0 A) (σ : io_M) (p1 : Int32) (p2 : Int32) (post : Int32 → io_M → Prop) (hw : wp_X8_workHandle K σ p1 p2 post) : Met l yX8_workHandle (.code yX8_workHandle cX8_workHandle 4 (some .boolean) :: io_tb) (io_rm (N + 12)) (va_Pc [.ref (ad 107), .int p1, .int p2] (io_W D ca ad A σ)) (va_Qi (fun r u => io_bl r ∧ post r u) (io_W D ca ad A) A) 0 0 A := by
  refine Met.ofW (cc := cX8_workHandle) (maxL := 4) (ret := (some .boolean)) (by decide) rfl ?_
  intro p e s m args below meth c s₁ Bd hml hv
  obtain ⟨rfl, hW0⟩ := hv
  have Z := io_Z.start hW0
  have B : CallFix p m c cX8_workHandle 4 s _ io_tb RX8 := ⟨Bd.exec, Bd.bytes, hml, findClass_of_methodNamed Bd.named, fun w hw => atoms_spec (ws := (.code yX8_workHandle cX8_workHandle 4 (some .boolean) :: io_tb)) Bd.pre w (List.mem_cons_of_mem _ hw)⟩
  have hr := Bd.returns
  have hlk := Bd.notSynchronized
  have hl := lv_entry ([.ref (ad 107), .int p1, .int p2]) (n := 4) (Nat.le_of_ble_eq_true rfl)
  rw [lg_entry_eq]
  generalize (lg_sl ([.ref (ad 107), .int p1, .int p2]) ++ List.replicate (4 - (lg_sl ([.ref (ad 107), .int p1, .int p2])).length) Slot.unset).toArray = ls at hl ⊢
  have hl : lv_has ls 4 [(0, .ref (ad 107)), (1, .int p1), (2, .int p2)] := hl
  show W p l e (io_rm (N + 12)) s m _ below meth c s.heap [] 0 0 _ (F0 m 0 ls [])
  unfold wp_X8_workHandle at hw
  refine lv_aload_n B.1 B.2.1 dX8_workHandle_0 rfl (lv_at hl 0 rfl) ?_
  refine lv_aload_n B.1 B.2.1 dX8_workHandle_1 rfl (lv_at hl 0 rfl) ?_
  refine io_g_8_0 B Z dX8_workHandle_2 ?_
  refine lv_iload_n B.1 B.2.1 dX8_workHandle_5 rfl (lv_at hl 1 rfl) ?_
  refine io_call_i Z (io_runV (ci := 7) (k := 96) [.int p1] [.ref (ad 107)] B Z (io_c_X7_first l D ca ad A _ p1 _ hw) io_k_8_85 (io_hR (by omega) (by decide)) rfl (by decide) (io_e_96 _) rfl hl.1 (Nat.le_of_ble_eq_true rfl) dX8_workHandle_6 ⟨Nat.le_refl _, Nat.le_refl _⟩) (fun r2 s3 H locs hw Z => ?_)
  refine lv_iload_n B.1 B.2.1 dX8_workHandle_9 rfl (lv_at hl 1 rfl) ?_
  refine lv_iload_n B.1 B.2.1 dX8_workHandle_10 rfl (lv_at hl 2 rfl) ?_
  refine io_call_q Z (io_runV (ci := 8) (k := 107) [.int r2, .int p1, .int p2] [] B Z (io_c_X8_workToHandle l D ca ad A N K hK _ r2 p1 p2 _ hw) io_k_8_153 (io_hR (by omega) (by decide)) rfl (by decide) (io_e_107 _) rfl hl.1 (Nat.le_of_ble_eq_true rfl) dX8_workHandle_11 ⟨Nat.le_refl _, Nat.le_refl _⟩) (fun r4 s5 H locs hw Z => ?_)
  obtain ⟨o6, e_r4, h7, hw⟩ := hw
  subst e_r4
  rcases o6 with _ | i8
  · have hw := hw.1 rfl
    show W _ _ _ _ _ _ _ _ _ _ _ _ _ _ _ (F0 _ _ _ (Value.null :: _))
    refine lv_astore_nN (lv' := [(3, .null), (0, .ref (ad 107)), (1, .int p1), (2, .int p2)]) B.1 B.2.1 dX8_workHandle_14 rfl hl (by decide) rfl (fun ls hl => ?_)
    refine lv_aload_nN B.1 B.2.1 dX8_workHandle_15 rfl (lv_at hl 0 rfl) ?_
    refine lv_ifnonnullN B.1 B.2.1 dX8_workHandle_16 ?_
    refine lv_iconst (v := 0) B.1 B.2.1 dX8_workHandle_19 (by decide) ?_
    exact io_ret_z B Z hr hlk (Or.inl rfl) hw dX8_workHandle_20
  · have hw := hw.2 i8 rfl
    have h7 := h7 _ rfl
    show W _ _ _ _ _ _ _ _ _ _ _ _ _ _ _ (F0 _ _ _ (Value.ref (ad (0 + i8)) :: _))
    rw [Nat.zero_add i8]
    refine lv_astore_n (lv' := [(3, .ref (ad i8)), (0, .ref (ad 107)), (1, .int p1), (2, .int p2)]) B.1 B.2.1 dX8_workHandle_14 rfl hl (by decide) rfl (fun ls hl => ?_)
    refine lv_aload_n B.1 B.2.1 dX8_workHandle_15 rfl (lv_at hl 0 rfl) ?_
    refine lv_ifnonnull (tgt := 21) B.1 B.2.1 dX8_workHandle_16 (by decide) ?_
    refine lv_aload_n B.1 B.2.1 dX8_workHandle_21 rfl (lv_at hl 1 rfl) ?_
    refine io_g_8_0 B Z dX8_workHandle_22 ?_
    refine lv_iload_n B.1 B.2.1 dX8_workHandle_25 rfl (lv_at hl 2 rfl) ?_
    refine io_call_i Z (io_runV (ci := 7) (k := 96) [.int p1] [] B Z (io_c_X7_code l D ca ad A _ p1 _ hw) io_k_8_79 (io_hR (by omega) (by decide)) rfl (by decide) (io_e_96 _) rfl hl.1 (Nat.le_of_ble_eq_true rfl) dX8_workHandle_26 ⟨Nat.le_refl _, Nat.le_refl _⟩) (fun r9 s10 H locs hw Z => ?_)
    rcases Classical.em (r9 = 4) with k11 | k11
    · have hw := hw.1 k11
      refine lv_tableIn (tgt := 88) (off := 59) B.1 B.2.1 dX8_workHandle_29 (by rw [k11]; decide) (by rw [k11]; decide) (by rw [k11]; decide) (by decide) ?_
      refine lv_aload_n B.1 B.2.1 dX8_workHandle_88 rfl (lv_at hl 1 rfl) ?_
      refine lv_iload_n B.1 B.2.1 dX8_workHandle_89 rfl (lv_at hl 2 rfl) ?_
      refine lv_aload_n B.1 B.2.1 dX8_workHandle_90 rfl (lv_at hl 0 rfl) ?_
      refine io_call_v Z (io_runV (ci := 8) (k := 107) [.int p1, .ref (ad i8)] [] B Z (io_c_X8_noteClosing l D ca ad A _ p1 i8 h7 _ hw) io_k_8_157 (io_hR (by omega) (by decide)) rfl (by decide) (io_e_107 _) rfl hl.1 (Nat.le_of_ble_eq_true rfl) dX8_workHandle_91 ⟨Nat.le_refl _, Nat.le_refl _⟩) (fun s13 H locs hw Z => ?_)
      refine lv_aload_n B.1 B.2.1 dX8_workHandle_94 rfl (lv_at hl 1 rfl) ?_
      refine lv_iload_n B.1 B.2.1 dX8_workHandle_95 rfl (lv_at hl 2 rfl) ?_
      refine lv_iconst (v := 0) B.1 B.2.1 dX8_workHandle_96 (by decide) ?_
      refine lv_aload_n B.1 B.2.1 dX8_workHandle_97 rfl (lv_at hl 0 rfl) ?_
      refine io_call_i Z (io_runV (ci := 2) (k := i8) [] [.int 0, .int p1, .ref (ad 107)] B Z (io_c_X2_close l D ca ad A _ i8 h7 _ hw) io_k_8_161 (io_hR (by omega) (by decide)) rfl (Nat.lt_trans h7 (by decide)) (io_e2 h7 _) rfl hl.1 (Nat.le_of_ble_eq_true rfl) dX8_workHandle_98 ⟨Nat.le_refl _, Nat.le_refl _⟩) (fun r14 s15 H locs hw Z => ?_)
      refine io_call_i Z (io_runV (ci := 8) (k := 107) [.int p1, .int 0, .int r14] [] B Z (io_c_X8_settle l D ca ad A _ p1 0 r14 _ hw) io_k_8_138 (io_hR (by omega) (by decide)) rfl (by decide) (io_e_107 _) rfl hl.1 (Nat.le_of_ble_eq_true rfl) dX8_workHandle_101 ⟨Nat.le_refl _, Nat.le_refl _⟩) (fun r16 s17 H locs hw Z => ?_)
      obtain ⟨b18, hw⟩ := hw
      exact io_ret_z B Z hr hlk b18 hw dX8_workHandle_104
    have hw := hw.2 k11
    rcases Classical.em (r9 = 6) with k19 | k19
    · have hw := hw.1 k19
      refine lv_tableIn (tgt := 105) (off := 76) B.1 B.2.1 dX8_workHandle_29 (by rw [k19]; decide) (by rw [k19]; decide) (by rw [k19]; decide) (by decide) ?_
      refine lv_aload_n B.1 B.2.1 dX8_workHandle_105 rfl (lv_at hl 1 rfl) ?_
      refine lv_iload_n B.1 B.2.1 dX8_workHandle_106 rfl (lv_at hl 2 rfl) ?_
      refine lv_iconst (v := 0) B.1 B.2.1 dX8_workHandle_107 (by decide) ?_
      refine lv_aload_n B.1 B.2.1 dX8_workHandle_108 rfl (lv_at hl 0 rfl) ?_
      refine io_call_i Z (io_runV (ci := 2) (k := i8) [] [.int 0, .int p1, .ref (ad 107)] B Z (io_c_X2_take l D ca ad A _ i8 h7 _ hw) io_k_8_167 (io_hR (by omega) (by decide)) rfl (Nat.lt_trans h7 (by decide)) (io_e2 h7 _) rfl hl.1 (Nat.le_of_ble_eq_true rfl) dX8_workHandle_109 ⟨Nat.le_refl _, Nat.le_refl _⟩) (fun r20 s21 H locs hw Z => ?_)
      refine io_call_i Z (io_runV (ci := 8) (k := 107) [.int p1, .int 0, .int r20] [] B Z (io_c_X8_act l D ca ad A _ p1 0 r20 _ hw) io_k_8_170 (io_hR (by omega) (by decide)) rfl (by decide) (io_e_107 _) rfl hl.1 (Nat.le_of_ble_eq_true rfl) dX8_workHandle_112 ⟨Nat.le_refl _, Nat.le_refl _⟩) (fun r22 s23 H locs hw Z => ?_)
      obtain ⟨b24, hw⟩ := hw
      exact io_ret_z B Z hr hlk b24 hw dX8_workHandle_115
    have hw := hw.2 k19
    rcases Classical.em (r9 = 7) with k25 | k25
    · have hw := hw.1 k25
      refine lv_tableIn (tgt := 116) (off := 87) B.1 B.2.1 dX8_workHandle_29 (by rw [k25]; decide) (by rw [k25]; decide) (by rw [k25]; decide) (by decide) ?_
      refine lv_aload_n B.1 B.2.1 dX8_workHandle_116 rfl (lv_at hl 1 rfl) ?_
      refine lv_iload_n B.1 B.2.1 dX8_workHandle_117 rfl (lv_at hl 2 rfl) ?_
      refine lv_iconst (v := 2) B.1 B.2.1 dX8_workHandle_118 (by decide) ?_
      refine lv_aload_n B.1 B.2.1 dX8_workHandle_119 rfl (lv_at hl 1 rfl) ?_
      refine io_g_8_3 B Z dX8_workHandle_120 ?_
      refine lv_aload_n B.1 B.2.1 dX8_workHandle_123 rfl (lv_at hl 0 rfl) ?_
      refine io_call_i Z (io_runV (ci := 6) (k := 103) [.ref (ad i8)] [.int 2, .int p1, .ref (ad 107)] B Z (io_c_X6_begin l D ca ad A _ i8 h7 _ hw) io_k_8_173 (io_hR (by omega) (by decide)) rfl (by decide) (io_e_103 _) rfl hl.1 (Nat.le_of_ble_eq_true rfl) dX8_workHandle_124 ⟨Nat.le_refl _, Nat.le_refl _⟩) (fun r26 s27 H locs hw Z => ?_)
      refine io_call_i Z (io_runV (ci := 8) (k := 107) [.int p1, .int 2, .int r26] [] B Z (io_c_X8_settle l D ca ad A _ p1 2 r26 _ hw) io_k_8_138 (io_hR (by omega) (by decide)) rfl (by decide) (io_e_107 _) rfl hl.1 (Nat.le_of_ble_eq_true rfl) dX8_workHandle_127 ⟨Nat.le_refl _, Nat.le_refl _⟩) (fun r28 s29 H locs hw Z => ?_)
      obtain ⟨b30, hw⟩ := hw
      exact io_ret_z B Z hr hlk b30 hw dX8_workHandle_130
    have hw := hw.2 k25
    rcases Classical.em (r9 = 11) with k31 | k31
    · have hw := hw.1 k31
      refine lv_tableIn (tgt := 131) (off := 102) B.1 B.2.1 dX8_workHandle_29 (by rw [k31]; decide) (by rw [k31]; decide) (by rw [k31]; decide) (by decide) ?_
      refine lv_aload_n B.1 B.2.1 dX8_workHandle_131 rfl (lv_at hl 1 rfl) ?_
      refine lv_iload_n B.1 B.2.1 dX8_workHandle_132 rfl (lv_at hl 2 rfl) ?_
      refine lv_iconst (v := 0) B.1 B.2.1 dX8_workHandle_133 (by decide) ?_
      refine lv_aload_n B.1 B.2.1 dX8_workHandle_134 rfl (lv_at hl 0 rfl) ?_
      refine io_call_i Z (io_runV (ci := 2) (k := i8) [] [.int 0, .int p1, .ref (ad 107)] B Z (io_c_X2_tellPlace l D ca ad A _ i8 h7 _ hw) io_k_8_177 (io_hR (by omega) (by decide)) rfl (Nat.lt_trans h7 (by decide)) (io_e2 h7 _) rfl hl.1 (Nat.le_of_ble_eq_true rfl) dX8_workHandle_135 ⟨Nat.le_refl _, Nat.le_refl _⟩) (fun r32 s33 H locs hw Z => ?_)
      refine io_call_i Z (io_runV (ci := 8) (k := 107) [.int p1, .int 0, .int r32] [] B Z (io_c_X8_settle l D ca ad A _ p1 0 r32 _ hw) io_k_8_138 (io_hR (by omega) (by decide)) rfl (by decide) (io_e_107 _) rfl hl.1 (Nat.le_of_ble_eq_true rfl) dX8_workHandle_138 ⟨Nat.le_refl _, Nat.le_refl _⟩) (fun r34 s35 H locs hw Z => ?_)
      obtain ⟨b36, hw⟩ := hw
      exact io_ret_z B Z hr hlk b36 hw dX8_workHandle_141
    have hw := hw.2 k31
    rcases Classical.em (r9 = 12) with k37 | k37
    · have hw := hw.1 k37
      refine lv_tableIn (tgt := 142) (off := 113) B.1 B.2.1 dX8_workHandle_29 (by rw [k37]; decide) (by rw [k37]; decide) (by rw [k37]; decide) (by decide) ?_
      refine lv_aload_n B.1 B.2.1 dX8_workHandle_142 rfl (lv_at hl 1 rfl) ?_
      refine lv_iload_n B.1 B.2.1 dX8_workHandle_143 rfl (lv_at hl 2 rfl) ?_
      refine lv_iconst (v := 0) B.1 B.2.1 dX8_workHandle_144 (by decide) ?_
      refine lv_aload_n B.1 B.2.1 dX8_workHandle_145 rfl (lv_at hl 0 rfl) ?_
      refine io_call_i Z (io_runV (ci := 2) (k := i8) [] [.int 0, .int p1, .ref (ad 107)] B Z (io_c_X2_measure l D ca ad A _ i8 h7 _ hw) io_k_8_180 (io_hR (by omega) (by decide)) rfl (Nat.lt_trans h7 (by decide)) (io_e2 h7 _) rfl hl.1 (Nat.le_of_ble_eq_true rfl) dX8_workHandle_146 ⟨Nat.le_refl _, Nat.le_refl _⟩) (fun r38 s39 H locs hw Z => ?_)
      refine io_call_i Z (io_runV (ci := 8) (k := 107) [.int p1, .int 0, .int r38] [] B Z (io_c_X8_settle l D ca ad A _ p1 0 r38 _ hw) io_k_8_138 (io_hR (by omega) (by decide)) rfl (by decide) (io_e_107 _) rfl hl.1 (Nat.le_of_ble_eq_true rfl) dX8_workHandle_149 ⟨Nat.le_refl _, Nat.le_refl _⟩) (fun r40 s41 H locs hw Z => ?_)
      obtain ⟨b42, hw⟩ := hw
      exact io_ret_z B Z hr hlk b42 hw dX8_workHandle_152
    have hw := hw.2 k37
    rcases Classical.em (r9 = 13) with k43 | k43
    · have hw := hw.1 k43
      refine lv_tableIn (tgt := 153) (off := 124) B.1 B.2.1 dX8_workHandle_29 (by rw [k43]; decide) (by rw [k43]; decide) (by rw [k43]; decide) (by decide) ?_
      refine lv_aload_n B.1 B.2.1 dX8_workHandle_153 rfl (lv_at hl 1 rfl) ?_
      refine lv_iload_n B.1 B.2.1 dX8_workHandle_154 rfl (lv_at hl 2 rfl) ?_
      refine lv_iconst (v := 0) B.1 B.2.1 dX8_workHandle_155 (by decide) ?_
      refine lv_aload_n B.1 B.2.1 dX8_workHandle_156 rfl (lv_at hl 0 rfl) ?_
      refine lv_aload_n B.1 B.2.1 dX8_workHandle_157 rfl (lv_at hl 1 rfl) ?_
      refine io_g_8_0 B Z dX8_workHandle_158 ?_
      refine lv_iload_n B.1 B.2.1 dX8_workHandle_161 rfl (lv_at hl 2 rfl) ?_
      refine io_call_i Z (io_runV (ci := 7) (k := 96) [.int p1] [.ref (ad i8), .int 0, .int p1, .ref (ad 107)] B Z (io_c_X7_second l D ca ad A _ p1 _ hw) io_k_8_110 (io_hR (by omega) (by decide)) rfl (by decide) (io_e_96 _) rfl hl.1 (Nat.le_of_ble_eq_true rfl) dX8_workHandle_162 ⟨Nat.le_refl _, Nat.le_refl _⟩) (fun r44 s45 H locs hw Z => ?_)
      refine io_call_i Z (io_runV (ci := 2) (k := i8) [.int r44] [.int 0, .int p1, .ref (ad 107)] B Z (io_c_X2_changeBuffer l D ca ad A _ i8 r44 h7 _ hw) io_k_8_183 (io_hR (by omega) (by decide)) rfl (Nat.lt_trans h7 (by decide)) (io_e2 h7 _) rfl hl.1 (Nat.le_of_ble_eq_true rfl) dX8_workHandle_165 ⟨Nat.le_refl _, Nat.le_refl _⟩) (fun r46 s47 H locs hw Z => ?_)
      refine io_call_i Z (io_runV (ci := 8) (k := 107) [.int p1, .int 0, .int r46] [] B Z (io_c_X8_act l D ca ad A _ p1 0 r46 _ hw) io_k_8_170 (io_hR (by omega) (by decide)) rfl (by decide) (io_e_107 _) rfl hl.1 (Nat.le_of_ble_eq_true rfl) dX8_workHandle_168 ⟨Nat.le_refl _, Nat.le_refl _⟩) (fun r48 s49 H locs hw Z => ?_)
      obtain ⟨b50, hw⟩ := hw
      exact io_ret_z B Z hr hlk b50 hw dX8_workHandle_171
    have hw := hw.2 k43
    refine io_tswE (tgt := 172) (fun z => (([4, 6, 7, 11, 12, 13] : List Int32).contains z) = true) B dX8_workHandle_29 (by decide) (by decide) (by decide) (by decide +kernel) (io_nc (List.forall_mem_cons.mpr ⟨fun q => k11 (q), (List.forall_mem_cons.mpr ⟨fun q => k19 (q), (List.forall_mem_cons.mpr ⟨fun q => k25 (q), (List.forall_mem_cons.mpr ⟨fun q => k31 (q), (List.forall_mem_cons.mpr ⟨fun q => k37 (q), (List.forall_mem_cons.mpr ⟨fun q => k43 (q), (fun _ h => absurd h List.not_mem_nil)⟩)⟩)⟩)⟩)⟩)⟩)) ?_
    refine lv_aload_n B.1 B.2.1 dX8_workHandle_172 rfl (lv_at hl 1 rfl) ?_
    refine lv_iload_n B.1 B.2.1 dX8_workHandle_173 rfl (lv_at hl 2 rfl) ?_
    refine lv_iconst (v := 0) B.1 B.2.1 dX8_workHandle_174 (by decide) ?_
    refine lv_aload_n B.1 B.2.1 dX8_workHandle_175 rfl (lv_at hl 0 rfl) ?_
    refine io_call_i Z (io_runV (ci := 2) (k := i8) [] [.int 0, .int p1, .ref (ad 107)] B Z (io_c_X2_flush l D ca ad A _ i8 h7 _ hw) io_k_8_186 (io_hR (by omega) (by decide)) rfl (Nat.lt_trans h7 (by decide)) (io_e2 h7 _) rfl hl.1 (Nat.le_of_ble_eq_true rfl) dX8_workHandle_176 ⟨Nat.le_refl _, Nat.le_refl _⟩) (fun r51 s52 H locs hw Z => ?_)
    refine io_call_i Z (io_runV (ci := 8) (k := 107) [.int p1, .int 0, .int r51] [] B Z (io_c_X8_act l D ca ad A _ p1 0 r51 _ hw) io_k_8_170 (io_hR (by omega) (by decide)) rfl (by decide) (io_e_107 _) rfl hl.1 (Nat.le_of_ble_eq_true rfl) dX8_workHandle_179 ⟨Nat.le_refl _, Nat.le_refl _⟩) (fun r53 s54 H locs hw Z => ?_)
    obtain ⟨b55, hw⟩ := hw
    exact io_ret_z B Z hr hlk b55 hw dX8_workHandle_182
def wp_X8_workToNumber (K : io_M → Int32 → Int32 → (Int32 → io_M → Prop) → Prop) (σ : io_M) (p1 : Int32) (p2 : Int32) (p3 : Int32) (post : Int32 → io_M → Prop) : Prop := (K σ p1 (p3 + 1) (fun r2 s3 => ((r2 = 0 → post 0 s3) ∧ (¬ (r2 = 0) → (((s3 107 7) = 0 → post 1 s3) ∧ (¬ ((s3 107 7) = 0) → (wp_X8_fail s3 4 p2 (fun r7 s8 => ((r7 = 0 → post 0 s8) ∧ (¬ (r7 = 0) → post 1 s8))))))))))
set_option maxHeartbeats 4000000 in
set_option maxRecDepth 100000 in
theorem io_c_X8_workToNumber (l : Launch) (D : va_G) (ca : Nat → ClassId) (ad : Nat → Nat) (A : Nat → Prop) (N : Nat) (K : io_M → Int32 → Int32 → (Int32 → io_M → Prop) → Prop) (hK : ∀ (σ : io_M) (p1 p2 : Int32) (post : Int32 → io_M → Prop), K σ p1 p2 post → Met l yX8_work (.code yX8_work cX8_work 3 (some .boolean) :: io_tb) (io_rm (N + 10)) (va_Pc [.ref (ad 107), .int p1, .int p2] (io_W D ca ad A σ)) (va_Qi (fun r u => io_bl r ∧ post r u) (io_W D ca ad A) A) 0 0 A) (σ : io_M) (p1 : Int32) (p2 : Int32) (p3 : Int32) (post : Int32 → io_M → Prop) (hw : wp_X8_workToNumber K σ p1 p2 p3 post) : Met l yX8_workToNumber (.code yX8_workToNumber cX8_workToNumber 4 (some .boolean) :: io_tb) (io_rm (N + 11)) (va_Pc [.ref (ad 107), .int p1, .int p2, .int p3] (io_W D ca ad A σ)) (va_Qi (fun r u => io_bl r ∧ post r u) (io_W D ca ad A) A) 0 0 A := by
  refine Met.ofW (cc := cX8_workToNumber) (maxL := 4) (ret := (some .boolean)) (by decide) rfl ?_
  intro p e s m args below meth c s₁ Bd hml hv
  obtain ⟨rfl, hW0⟩ := hv
  have Z := io_Z.start hW0
  have B : CallFix p m c cX8_workToNumber 4 s _ io_tb RX8 := ⟨Bd.exec, Bd.bytes, hml, findClass_of_methodNamed Bd.named, fun w hw => atoms_spec (ws := (.code yX8_workToNumber cX8_workToNumber 4 (some .boolean) :: io_tb)) Bd.pre w (List.mem_cons_of_mem _ hw)⟩
  have hr := Bd.returns
  have hlk := Bd.notSynchronized
  have hl := lv_entry ([.ref (ad 107), .int p1, .int p2, .int p3]) (n := 4) (Nat.le_of_ble_eq_true rfl)
  rw [lg_entry_eq]
  generalize (lg_sl ([.ref (ad 107), .int p1, .int p2, .int p3]) ++ List.replicate (4 - (lg_sl ([.ref (ad 107), .int p1, .int p2, .int p3])).length) Slot.unset).toArray = ls at hl ⊢
  have hl : lv_has ls 4 [(0, .ref (ad 107)), (1, .int p1), (2, .int p2), (3, .int p3)] := hl
  show W p l e (io_rm (N + 11)) s m _ below meth c s.heap [] 0 0 _ (F0 m 0 ls [])
  unfold wp_X8_workToNumber at hw
  refine lv_aload_n B.1 B.2.1 dX8_workToNumber_0 rfl (lv_at hl 0 rfl) ?_
  refine lv_iload_n B.1 B.2.1 dX8_workToNumber_1 rfl (lv_at hl 1 rfl) ?_
  refine lv_iload_n B.1 B.2.1 dX8_workToNumber_2 rfl (lv_at hl 3 rfl) ?_
  refine lv_iconst (v := 1) B.1 B.2.1 dX8_workToNumber_3 (by decide) ?_
  refine lv_iadd B.1 B.2.1 dX8_workToNumber_4 ?_
  refine io_call_i Z (io_runV (ci := 8) (k := 107) [.int p1, .int (p3 + 1)] [] B Z (hK _ p1 (p3 + 1) _ hw) io_k_8_68 (io_hR (by omega) (by decide)) rfl (by decide) (io_e_107 _) rfl hl.1 (Nat.le_of_ble_eq_true rfl) dX8_workToNumber_5 ⟨Nat.le_refl _, Nat.le_refl _⟩) (fun r2 s3 H locs hw Z => ?_)
  obtain ⟨b4, hw⟩ := hw
  refine lv_if_eq (tgt := 31) B.1 B.2.1 dX8_workToNumber_8 (by decide) (fun k5 => ?_) (fun k5 => ?_)
  · have hw := hw.1 k5
    refine lv_iconst (v := 0) B.1 B.2.1 dX8_workToNumber_31 (by decide) ?_
    exact io_ret_z B Z hr hlk (Or.inl rfl) hw dX8_workToNumber_32
  · have hw := hw.2 k5
    refine lv_aload_n B.1 B.2.1 dX8_workToNumber_11 rfl (lv_at hl 0 rfl) ?_
    refine io_g_8_7 B Z dX8_workToNumber_12 ?_
    refine lv_if_eq (tgt := 27) B.1 B.2.1 dX8_workToNumber_15 (by decide) (fun k6 => ?_) (fun k6 => ?_)
    · have hw := hw.1 k6
      refine lv_iconst (v := 1) B.1 B.2.1 dX8_workToNumber_27 (by decide) ?_
      refine lv_goto (tgt := 32) B.1 B.2.1 dX8_workToNumber_28 (by decide) ?_
      exact io_ret_z B Z hr hlk (Or.inr rfl) hw dX8_workToNumber_32
    · have hw := hw.2 k6
      refine lv_aload_n B.1 B.2.1 dX8_workToNumber_18 rfl (lv_at hl 0 rfl) ?_
      refine lv_iconst (v := 4) B.1 B.2.1 dX8_workToNumber_19 (by decide) ?_
      refine lv_iload_n B.1 B.2.1 dX8_workToNumber_20 rfl (lv_at hl 2 rfl) ?_
      refine io_call_i Z (io_runV (ci := 8) (k := 107) [.int 4, .int p2] [] B Z (io_c_X8_fail l D ca ad A _ 4 p2 _ hw) io_k_8_116 (io_hR (by omega) (by decide)) rfl (by decide) (io_e_107 _) rfl hl.1 (Nat.le_of_ble_eq_true rfl) dX8_workToNumber_21 ⟨Nat.le_refl _, Nat.le_refl _⟩) (fun r7 s8 H locs hw Z => ?_)
      obtain ⟨b9, hw⟩ := hw
      refine lv_if_eq (tgt := 31) B.1 B.2.1 dX8_workToNumber_24 (by decide) (fun k10 => ?_) (fun k10 => ?_)
      · have hw := hw.1 k10
        refine lv_iconst (v := 0) B.1 B.2.1 dX8_workToNumber_31 (by decide) ?_
        exact io_ret_z B Z hr hlk (Or.inl rfl) hw dX8_workToNumber_32
      · have hw := hw.2 k10
        refine lv_iconst (v := 1) B.1 B.2.1 dX8_workToNumber_27 (by decide) ?_
        refine lv_goto (tgt := 32) B.1 B.2.1 dX8_workToNumber_28 (by decide) ?_
        exact io_ret_z B Z hr hlk (Or.inr rfl) hw dX8_workToNumber_32
def wp_X8_workHandleAndNumber (K : io_M → Int32 → Int32 → (Int32 → io_M → Prop) → Prop) (σ : io_M) (p1 : Int32) (p2 : Int32) (post : Int32 → io_M → Prop) : Prop := (wp_X7_first σ p1 (fun r2 s3 => (wp_X8_workToHandle K s3 r2 p1 p2 (fun o6 s5 => (o6 = none → post 0 s5) ∧ (∀ i8, o6 = some i8 → (wp_X7_second s5 p1 (fun r9 s10 => (wp_X8_workToNumber K s10 r9 p1 p2 (fun r11 s12 => ((r11 = 0 → post 0 s12) ∧ (¬ (r11 = 0) → (wp_X7_code s12 p1 (fun r15 s16 => ((r15 = 5 → (wp_X2_put s16 i8 (s16 107 8) (fun r23 s24 => (wp_X8_act s24 p1 0 r23 (fun r25 s26 => post r25 s26))))) ∧ (¬ (r15 = 5) → (wp_X2_seek s16 i8 (s16 107 8) (fun r18 s19 => (wp_X8_act s19 p1 0 r18 (fun r20 s21 => post r20 s21)))))))))))))))))))
set_option maxHeartbeats 4000000 in
set_option maxRecDepth 100000 in
theorem io_c_X8_workHandleAndNumber (l : Launch) (D : va_G) (ca : Nat → ClassId) (ad : Nat → Nat) (A : Nat → Prop) (N : Nat) (K : io_M → Int32 → Int32 → (Int32 → io_M → Prop) → Prop) (hK : ∀ (σ : io_M) (p1 p2 : Int32) (post : Int32 → io_M → Prop), K σ p1 p2 post → Met l yX8_work (.code yX8_work cX8_work 3 (some .boolean) :: io_tb) (io_rm (N + 10)) (va_Pc [.ref (ad 107), .int p1, .int p2] (io_W D ca ad A σ)) (va_Qi (fun r u => io_bl r ∧ post r u) (io_W D ca ad A) A) 0 0 A) (σ : io_M) (p1 : Int32) (p2 : Int32) (post : Int32 → io_M → Prop) (hw : wp_X8_workHandleAndNumber K σ p1 p2 post) : Met l yX8_workHandleAndNumber (.code yX8_workHandleAndNumber cX8_workHandleAndNumber 5 (some .boolean) :: io_tb) (io_rm (N + 12)) (va_Pc [.ref (ad 107), .int p1, .int p2] (io_W D ca ad A σ)) (va_Qi (fun r u => io_bl r ∧ post r u) (io_W D ca ad A) A) 0 0 A := by
  refine Met.ofW (cc := cX8_workHandleAndNumber) (maxL := 5) (ret := (some .boolean)) (by decide) rfl ?_
  intro p e s m args below meth c s₁ Bd hml hv
  obtain ⟨rfl, hW0⟩ := hv
  have Z := io_Z.start hW0
  have B : CallFix p m c cX8_workHandleAndNumber 5 s _ io_tb RX8 := ⟨Bd.exec, Bd.bytes, hml, findClass_of_methodNamed Bd.named, fun w hw => atoms_spec (ws := (.code yX8_workHandleAndNumber cX8_workHandleAndNumber 5 (some .boolean) :: io_tb)) Bd.pre w (List.mem_cons_of_mem _ hw)⟩
  have hr := Bd.returns
  have hlk := Bd.notSynchronized
  have hl := lv_entry ([.ref (ad 107), .int p1, .int p2]) (n := 5) (Nat.le_of_ble_eq_true rfl)
  rw [lg_entry_eq]
  generalize (lg_sl ([.ref (ad 107), .int p1, .int p2]) ++ List.replicate (5 - (lg_sl ([.ref (ad 107), .int p1, .int p2])).length) Slot.unset).toArray = ls at hl ⊢
  have hl : lv_has ls 5 [(0, .ref (ad 107)), (1, .int p1), (2, .int p2)] := hl
  show W p l e (io_rm (N + 12)) s m _ below meth c s.heap [] 0 0 _ (F0 m 0 ls [])
  unfold wp_X8_workHandleAndNumber at hw
  refine lv_aload_n B.1 B.2.1 dX8_workHandleAndNumber_0 rfl (lv_at hl 0 rfl) ?_
  refine lv_aload_n B.1 B.2.1 dX8_workHandleAndNumber_1 rfl (lv_at hl 0 rfl) ?_
  refine io_g_8_0 B Z dX8_workHandleAndNumber_2 ?_
  refine lv_iload_n B.1 B.2.1 dX8_workHandleAndNumber_5 rfl (lv_at hl 1 rfl) ?_
  refine io_call_i Z (io_runV (ci := 7) (k := 96) [.int p1] [.ref (ad 107)] B Z (io_c_X7_first l D ca ad A _ p1 _ hw) io_k_8_85 (io_hR (by omega) (by decide)) rfl (by decide) (io_e_96 _) rfl hl.1 (Nat.le_of_ble_eq_true rfl) dX8_workHandleAndNumber_6 ⟨Nat.le_refl _, Nat.le_refl _⟩) (fun r2 s3 H locs hw Z => ?_)
  refine lv_iload_n B.1 B.2.1 dX8_workHandleAndNumber_9 rfl (lv_at hl 1 rfl) ?_
  refine lv_iload_n B.1 B.2.1 dX8_workHandleAndNumber_10 rfl (lv_at hl 2 rfl) ?_
  refine io_call_q Z (io_runV (ci := 8) (k := 107) [.int r2, .int p1, .int p2] [] B Z (io_c_X8_workToHandle l D ca ad A N K hK _ r2 p1 p2 _ hw) io_k_8_153 (io_hR (by omega) (by decide)) rfl (by decide) (io_e_107 _) rfl hl.1 (Nat.le_of_ble_eq_true rfl) dX8_workHandleAndNumber_11 ⟨Nat.le_refl _, Nat.le_refl _⟩) (fun r4 s5 H locs hw Z => ?_)
  obtain ⟨o6, e_r4, h7, hw⟩ := hw
  subst e_r4
  rcases o6 with _ | i8
  · have hw := hw.1 rfl
    show W _ _ _ _ _ _ _ _ _ _ _ _ _ _ _ (F0 _ _ _ (Value.null :: _))
    refine lv_astore_nN (lv' := [(3, .null), (0, .ref (ad 107)), (1, .int p1), (2, .int p2)]) B.1 B.2.1 dX8_workHandleAndNumber_14 rfl hl (by decide) rfl (fun ls hl => ?_)
    refine lv_aload_nN B.1 B.2.1 dX8_workHandleAndNumber_15 rfl (lv_at hl 0 rfl) ?_
    refine lv_ifnullN (tgt := 36) B.1 B.2.1 dX8_workHandleAndNumber_16 (by decide) ?_
    refine lv_iconst (v := 0) B.1 B.2.1 dX8_workHandleAndNumber_36 (by decide) ?_
    exact io_ret_z B Z hr hlk (Or.inl rfl) hw dX8_workHandleAndNumber_37
  · have hw := hw.2 i8 rfl
    have h7 := h7 _ rfl
    show W _ _ _ _ _ _ _ _ _ _ _ _ _ _ _ (F0 _ _ _ (Value.ref (ad (0 + i8)) :: _))
    rw [Nat.zero_add i8]
    refine lv_astore_n (lv' := [(3, .ref (ad i8)), (0, .ref (ad 107)), (1, .int p1), (2, .int p2)]) B.1 B.2.1 dX8_workHandleAndNumber_14 rfl hl (by decide) rfl (fun ls hl => ?_)
    refine lv_aload_n B.1 B.2.1 dX8_workHandleAndNumber_15 rfl (lv_at hl 0 rfl) ?_
    refine lv_ifnull B.1 B.2.1 dX8_workHandleAndNumber_16 ?_
    refine lv_aload_n B.1 B.2.1 dX8_workHandleAndNumber_19 rfl (lv_at hl 1 rfl) ?_
    refine lv_aload_n B.1 B.2.1 dX8_workHandleAndNumber_20 rfl (lv_at hl 1 rfl) ?_
    refine io_g_8_0 B Z dX8_workHandleAndNumber_21 ?_
    refine lv_iload_n B.1 B.2.1 dX8_workHandleAndNumber_24 rfl (lv_at hl 2 rfl) ?_
    refine io_call_i Z (io_runV (ci := 7) (k := 96) [.int p1] [.ref (ad 107)] B Z (io_c_X7_second l D ca ad A _ p1 _ hw) io_k_8_110 (io_hR (by omega) (by decide)) rfl (by decide) (io_e_96 _) rfl hl.1 (Nat.le_of_ble_eq_true rfl) dX8_workHandleAndNumber_25 ⟨Nat.le_refl _, Nat.le_refl _⟩) (fun r9 s10 H locs hw Z => ?_)
    refine lv_iload_n B.1 B.2.1 dX8_workHandleAndNumber_28 rfl (lv_at hl 2 rfl) ?_
    refine lv_iload_n B.1 B.2.1 dX8_workHandleAndNumber_29 rfl (lv_at hl 3 rfl) ?_
    refine io_call_i Z (io_runV (ci := 8) (k := 107) [.int r9, .int p1, .int p2] [] B Z (io_c_X8_workToNumber l D ca ad A N K hK _ r9 p1 p2 _ hw) io_k_8_192 (io_hR (by omega) (by decide)) rfl (by decide) (io_e_107 _) rfl hl.1 (Nat.le_of_ble_eq_true rfl) dX8_workHandleAndNumber_30 ⟨Nat.le_refl _, Nat.le_refl _⟩) (fun r11 s12 H locs hw Z => ?_)
    obtain ⟨b13, hw⟩ := hw
    refine lv_if_ne (tgt := 38) B.1 B.2.1 dX8_workHandleAndNumber_33 (by decide) (fun k14 => ?_) (fun k14 => ?_)
    · have hw := hw.2 k14
      refine lv_aload_n B.1 B.2.1 dX8_workHandleAndNumber_38 rfl (lv_at hl 1 rfl) ?_
      refine io_g_8_0 B Z dX8_workHandleAndNumber_39 ?_
      refine lv_iload_n B.1 B.2.1 dX8_workHandleAndNumber_42 rfl (lv_at hl 2 rfl) ?_
      refine io_call_i Z (io_runV (ci := 7) (k := 96) [.int p1] [] B Z (io_c_X7_code l D ca ad A _ p1 _ hw) io_k_8_79 (io_hR (by omega) (by decide)) rfl (by decide) (io_e_96 _) rfl hl.1 (Nat.le_of_ble_eq_true rfl) dX8_workHandleAndNumber_43 ⟨Nat.le_refl _, Nat.le_refl _⟩) (fun r15 s16 H locs hw Z => ?_)
      refine lv_iconst (v := 5) B.1 B.2.1 dX8_workHandleAndNumber_46 (by decide) ?_
      refine lv_icmp_ne (tgt := 61) B.1 B.2.1 dX8_workHandleAndNumber_47 (by decide) (fun k17 => ?_) (fun k17 => ?_)
      · have hw := hw.2 k17
        refine lv_aload_n B.1 B.2.1 dX8_workHandleAndNumber_61 rfl (lv_at hl 0 rfl) ?_
        refine lv_aload_n B.1 B.2.1 dX8_workHandleAndNumber_62 rfl (lv_at hl 1 rfl) ?_
        refine io_g_8_8 B Z dX8_workHandleAndNumber_63 ?_
        refine io_call_i Z (io_runV (ci := 2) (k := i8) [.int (s16 107 8)] [] B Z (io_c_X2_seek l D ca ad A _ i8 (s16 107 8) h7 _ hw) io_k_8_198 (io_hR (by omega) (by decide)) rfl (Nat.lt_trans h7 (by decide)) (io_e2 h7 _) rfl hl.1 (Nat.le_of_ble_eq_true rfl) dX8_workHandleAndNumber_66 ⟨Nat.le_refl _, Nat.le_refl _⟩) (fun r18 s19 H locs hw Z => ?_)
        refine lv_istore (lv' := [(4, .int r18), (3, .ref (ad i8)), (0, .ref (ad 107)), (1, .int p1), (2, .int p2)]) B.1 B.2.1 dX8_workHandleAndNumber_69 hl (by decide) rfl (fun ls hl => ?_)
        refine lv_aload_n B.1 B.2.1 dX8_workHandleAndNumber_71 rfl (lv_at hl 2 rfl) ?_
        refine lv_iload_n B.1 B.2.1 dX8_workHandleAndNumber_72 rfl (lv_at hl 3 rfl) ?_
        refine lv_iconst (v := 0) B.1 B.2.1 dX8_workHandleAndNumber_73 (by decide) ?_
        refine lv_iload B.1 B.2.1 dX8_workHandleAndNumber_74 (lv_at hl 0 rfl) ?_
        refine io_call_i Z (io_runV (ci := 8) (k := 107) [.int p1, .int 0, .int r18] [] B Z (io_c_X8_act l D ca ad A _ p1 0 r18 _ hw) io_k_8_170 (io_hR (by omega) (by decide)) rfl (by decide) (io_e_107 _) rfl hl.1 (Nat.le_of_ble_eq_true rfl) dX8_workHandleAndNumber_76 ⟨Nat.le_refl _, Nat.le_refl _⟩) (fun r20 s21 H locs hw Z => ?_)
        obtain ⟨b22, hw⟩ := hw
        exact io_ret_z B Z hr hlk b22 hw dX8_workHandleAndNumber_79
      · have hw := hw.1 k17
        refine lv_aload_n B.1 B.2.1 dX8_workHandleAndNumber_50 rfl (lv_at hl 0 rfl) ?_
        refine lv_aload_n B.1 B.2.1 dX8_workHandleAndNumber_51 rfl (lv_at hl 1 rfl) ?_
        refine io_g_8_8 B Z dX8_workHandleAndNumber_52 ?_
        refine io_call_i Z (io_runV (ci := 2) (k := i8) [.int (s16 107 8)] [] B Z (io_c_X2_put l D ca ad A _ i8 (s16 107 8) h7 _ hw) io_k_8_195 (io_hR (by omega) (by decide)) rfl (Nat.lt_trans h7 (by decide)) (io_e2 h7 _) rfl hl.1 (Nat.le_of_ble_eq_true rfl) dX8_workHandleAndNumber_55 ⟨Nat.le_refl _, Nat.le_refl _⟩) (fun r23 s24 H locs hw Z => ?_)
        refine lv_goto (tgt := 69) B.1 B.2.1 dX8_workHandleAndNumber_58 (by decide) ?_
        refine lv_istore (lv' := [(4, .int r23), (3, .ref (ad i8)), (0, .ref (ad 107)), (1, .int p1), (2, .int p2)]) B.1 B.2.1 dX8_workHandleAndNumber_69 hl (by decide) rfl (fun ls hl => ?_)
        refine lv_aload_n B.1 B.2.1 dX8_workHandleAndNumber_71 rfl (lv_at hl 2 rfl) ?_
        refine lv_iload_n B.1 B.2.1 dX8_workHandleAndNumber_72 rfl (lv_at hl 3 rfl) ?_
        refine lv_iconst (v := 0) B.1 B.2.1 dX8_workHandleAndNumber_73 (by decide) ?_
        refine lv_iload B.1 B.2.1 dX8_workHandleAndNumber_74 (lv_at hl 0 rfl) ?_
        refine io_call_i Z (io_runV (ci := 8) (k := 107) [.int p1, .int 0, .int r23] [] B Z (io_c_X8_act l D ca ad A _ p1 0 r23 _ hw) io_k_8_170 (io_hR (by omega) (by decide)) rfl (by decide) (io_e_107 _) rfl hl.1 (Nat.le_of_ble_eq_true rfl) dX8_workHandleAndNumber_76 ⟨Nat.le_refl _, Nat.le_refl _⟩) (fun r25 s26 H locs hw Z => ?_)
        obtain ⟨b27, hw⟩ := hw
        exact io_ret_z B Z hr hlk b27 hw dX8_workHandleAndNumber_79
    · have hw := hw.1 k14
      refine lv_iconst (v := 0) B.1 B.2.1 dX8_workHandleAndNumber_36 (by decide) ?_
      exact io_ret_z B Z hr hlk (Or.inl rfl) hw dX8_workHandleAndNumber_37
def wl_X8_noteTimes_2 : Nat → io_M → Int32 → Int32 → Int32 → (io_M → Prop) → Prop
  | 0, _, _, _, _, _ => False
  | n + 1, σ, x1, x2, x3, post => ((x2 ≤ x3 → post σ) ∧ (¬ (x2 ≤ x3) → (wp_X4_note σ x1 (fun s103 => wl_X8_noteTimes_2 n s103 x1 x2 (x3 + 1) post))))
def wp_X8_noteTimes (σ : io_M) (p1 : Int32) (p2 : Int32) (post : io_M → Prop) : Prop := (∃ n, wl_X8_noteTimes_2 n σ p1 p2 0 post)
set_option maxHeartbeats 4000000 in
set_option maxRecDepth 100000 in
theorem io_c_X8_noteTimes (l : Launch) (D : va_G) (ca : Nat → ClassId) (ad : Nat → Nat) (A : Nat → Prop) (σ : io_M) (p1 : Int32) (p2 : Int32) (post : io_M → Prop) (hw : wp_X8_noteTimes σ p1 p2 post) : Met l yX8_noteTimes (.code yX8_noteTimes cX8_noteTimes 4 none :: io_tb) (io_rm 1) (va_Pc [.ref (ad 107), .int p1, .int p2] (io_W D ca ad A σ)) (va_Qv post (io_W D ca ad A) A) 0 0 A := by
  refine Met.ofW (cc := cX8_noteTimes) (maxL := 4) (ret := none) (by decide) rfl ?_
  intro p e s m args below meth c s₁ Bd hml hv
  obtain ⟨rfl, hW0⟩ := hv
  have Z := io_Z.start hW0
  have B : CallFix p m c cX8_noteTimes 4 s _ io_tb RX8 := ⟨Bd.exec, Bd.bytes, hml, findClass_of_methodNamed Bd.named, fun w hw => atoms_spec (ws := (.code yX8_noteTimes cX8_noteTimes 4 none :: io_tb)) Bd.pre w (List.mem_cons_of_mem _ hw)⟩
  have hr := Bd.returns
  have hlk := Bd.notSynchronized
  have hl := lv_entry ([.ref (ad 107), .int p1, .int p2]) (n := 4) (Nat.le_of_ble_eq_true rfl)
  rw [lg_entry_eq]
  generalize (lg_sl ([.ref (ad 107), .int p1, .int p2]) ++ List.replicate (4 - (lg_sl ([.ref (ad 107), .int p1, .int p2])).length) Slot.unset).toArray = ls at hl ⊢
  have hl : lv_has ls 4 [(0, .ref (ad 107)), (1, .int p1), (2, .int p2)] := hl
  show W p l e (io_rm 1) s m _ below meth c s.heap [] 0 0 _ (F0 m 0 ls [])
  have LP2 : ∀ (n : Nat) (σ : io_M) (x1 : Int32) (x2 : Int32) (x3 : Int32), wl_X8_noteTimes_2 n σ x1 x2 x3 post → ∀ (H : Heap) (locs : List Loc), io_Z D ca ad A s H locs σ → ∀ ls : Array Slot, lv_has ls 4 [(0, .ref (ad 107)), (1, .int x1), (2, .int x2), (3, .int x3)] → W p l e (io_rm 1) s m ([.ref (ad 107), .int p1, .int p2] : List Value).toArray below meth c H locs 0 0 (MQ below (va_Qv post (io_W D ca ad A) A) ([.ref (ad 107), .int p1, .int p2] : List Value).toArray s 0 0 A) (F0 m 2 ls []) := by
    intro n
    induction n with
    | zero =>
      intro σ x1 x2 x3 hw
      exact hw.elim
    | succ n IH2 =>
      intro σ x1 x2 x3 hw H locs Z ls hl
      unfold wl_X8_noteTimes_2 at hw
      refine lv_iload_n B.1 B.2.1 dX8_noteTimes_2 rfl (lv_at hl 3 rfl) ?_
      refine lv_iload_n B.1 B.2.1 dX8_noteTimes_3 rfl (lv_at hl 2 rfl) ?_
      refine lv_icmp_ge (tgt := 21) B.1 B.2.1 dX8_noteTimes_4 (by decide) (fun k101 => ?_) (fun k101 => ?_)
      · have hw := hw.1 k101
        exact io_ret_v B Z hr hlk hw dX8_noteTimes_21
      · have hw := hw.2 k101
        refine lv_aload_n B.1 B.2.1 dX8_noteTimes_7 rfl (lv_at hl 0 rfl) ?_
        refine io_g_8_4 B Z dX8_noteTimes_8 ?_
        refine lv_iload_n B.1 B.2.1 dX8_noteTimes_11 rfl (lv_at hl 1 rfl) ?_
        refine io_call_v Z (io_runV (ci := 4) (k := 105) [.int x1] [] B Z (io_c_X4_note l D ca ad A _ x1 _ hw) io_k_8_134 (io_hR (by decide) (by decide)) rfl (by decide) (io_e_105 _) rfl hl.1 (Nat.le_of_ble_eq_true rfl) dX8_noteTimes_12 ⟨Nat.le_refl _, Nat.le_refl _⟩) (fun s103 H locs hw Z => ?_)
        refine lv_iinc (v := (x3 + 1)) (lv' := [(3, .int (x3 + 1)), (0, .ref (ad 107)), (1, .int x1), (2, .int x2)]) B.1 B.2.1 dX8_noteTimes_15 hl (k := 3) rfl rfl (by decide) rfl (fun ls hl => ?_)
        refine lv_goto (tgt := 2) B.1 B.2.1 dX8_noteTimes_18 (by decide) ?_
        exact IH2 _ x1 x2 (x3 + 1) hw _ _ Z _ (lv_sub (l' := [(0, .ref (ad 107)), (1, .int x1), (2, .int x2), (3, .int (x3 + 1))]) hl [1, 2, 3, 0] rfl)
  unfold wp_X8_noteTimes at hw
  refine lv_iconst (v := 0) B.1 B.2.1 dX8_noteTimes_0 (by decide) ?_
  refine lv_istore_n (lv' := [(3, .int 0), (0, .ref (ad 107)), (1, .int p1), (2, .int p2)]) B.1 B.2.1 dX8_noteTimes_1 rfl hl (by decide) rfl (fun ls hl => ?_)
  obtain ⟨n, hw⟩ := hw
  exact LP2 n _ p1 p2 0 hw _ _ Z _ (lv_sub (l' := [(0, .ref (ad 107)), (1, .int p1), (2, .int p2), (3, .int 0)]) hl [1, 2, 3, 0] rfl)
def wp_X8_workToList (K : io_M → Int32 → Int32 → (Int32 → io_M → Prop) → Prop) (σ : io_M) (p1 : Int32) (p2 : Int32) (p3 : Int32) (post : Option Nat → io_M → Prop) : Prop := (K σ p1 (p3 + 1) (fun r2 s3 => ((r2 = 0 → post none s3) ∧ (¬ (r2 = 0) → (((s3 107 7) = 2 → (wp_X6_pick s3 (s3 107 8) (fun o12 s11 => (o12 = none → (wp_X8_fail s11 4 p2 (fun r15 s16 => post none s16))) ∧ (∀ i14, o12 = some i14 → (post (some i14) s11))))) ∧ (¬ ((s3 107 7) = 2) → (wp_X8_fail s3 4 p2 (fun r7 s8 => post none s8))))))))
set_option maxHeartbeats 4000000 in
set_option maxRecDepth 100000 in
theorem io_c_X8_workToList (l : Launch) (D : va_G) (ca : Nat → ClassId) (ad : Nat → Nat) (A : Nat → Prop) (N : Nat) (K : io_M → Int32 → Int32 → (Int32 → io_M → Prop) → Prop) (hK : ∀ (σ : io_M) (p1 p2 : Int32) (post : Int32 → io_M → Prop), K σ p1 p2 post → Met l yX8_work (.code yX8_work cX8_work 3 (some .boolean) :: io_tb) (io_rm (N + 10)) (va_Pc [.ref (ad 107), .int p1, .int p2] (io_W D ca ad A σ)) (va_Qi (fun r u => io_bl r ∧ post r u) (io_W D ca ad A) A) 0 0 A) (σ : io_M) (p1 : Int32) (p2 : Int32) (p3 : Int32) (post : Option Nat → io_M → Prop) (hw : wp_X8_workToList K σ p1 p2 p3 post) : Met l yX8_workToList (.code yX8_workToList cX8_workToList 5 (some (.object "InputOutput$LazyList")) :: io_tb) (io_rm (N + 11)) (va_Pc [.ref (ad 107), .int p1, .int p2, .int p3] (io_W D ca ad A σ)) (va_Qq (fun r u => ∃ o : Option Nat, r = o.map (fun i => ad (40 + i)) ∧ (∀ i, o = some i → i < 20) ∧ post o u) (io_W D ca ad A) A) 0 0 A := by
  refine Met.ofW (cc := cX8_workToList) (maxL := 5) (ret := (some (.object "InputOutput$LazyList"))) (by decide) rfl ?_
  intro p e s m args below meth c s₁ Bd hml hv
  obtain ⟨rfl, hW0⟩ := hv
  have Z := io_Z.start hW0
  have B : CallFix p m c cX8_workToList 5 s _ io_tb RX8 := ⟨Bd.exec, Bd.bytes, hml, findClass_of_methodNamed Bd.named, fun w hw => atoms_spec (ws := (.code yX8_workToList cX8_workToList 5 (some (.object "InputOutput$LazyList")) :: io_tb)) Bd.pre w (List.mem_cons_of_mem _ hw)⟩
  have hr := Bd.returns
  have hlk := Bd.notSynchronized
  have hl := lv_entry ([.ref (ad 107), .int p1, .int p2, .int p3]) (n := 5) (Nat.le_of_ble_eq_true rfl)
  rw [lg_entry_eq]
  generalize (lg_sl ([.ref (ad 107), .int p1, .int p2, .int p3]) ++ List.replicate (5 - (lg_sl ([.ref (ad 107), .int p1, .int p2, .int p3])).length) Slot.unset).toArray = ls at hl ⊢
  have hl : lv_has ls 5 [(0, .ref (ad 107)), (1, .int p1), (2, .int p2), (3, .int p3)] := hl
  show W p l e (io_rm (N + 11)) s m _ below meth c s.heap [] 0 0 _ (F0 m 0 ls [])
  unfold wp_X8_workToList at hw
  refine lv_aload_n B.1 B.2.1 dX8_workToList_0 rfl (lv_at hl 0 rfl) ?_
  refine lv_iload_n B.1 B.2.1 dX8_workToList_1 rfl (lv_at hl 1 rfl) ?_
  refine lv_iload_n B.1 B.2.1 dX8_workToList_2 rfl (lv_at hl 3 rfl) ?_
  refine lv_iconst (v := 1) B.1 B.2.1 dX8_workToList_3 (by decide) ?_
  refine lv_iadd B.1 B.2.1 dX8_workToList_4 ?_
  refine io_call_i Z (io_runV (ci := 8) (k := 107) [.int p1, .int (p3 + 1)] [] B Z (hK _ p1 (p3 + 1) _ hw) io_k_8_68 (io_hR (by omega) (by decide)) rfl (by decide) (io_e_107 _) rfl hl.1 (Nat.le_of_ble_eq_true rfl) dX8_workToList_5 ⟨Nat.le_refl _, Nat.le_refl _⟩) (fun r2 s3 H locs hw Z => ?_)
  obtain ⟨b4, hw⟩ := hw
  refine lv_if_ne (tgt := 13) B.1 B.2.1 dX8_workToList_8 (by decide) (fun k5 => ?_) (fun k5 => ?_)
  · have hw := hw.2 k5
    refine lv_aload_n B.1 B.2.1 dX8_workToList_13 rfl (lv_at hl 0 rfl) ?_
    refine io_g_8_7 B Z dX8_workToList_14 ?_
    refine lv_iconst (v := 2) B.1 B.2.1 dX8_workToList_17 (by decide) ?_
    refine lv_icmp_ne (tgt := 35) B.1 B.2.1 dX8_workToList_18 (by decide) (fun k6 => ?_) (fun k6 => ?_)
    · have hw := hw.2 k6
      refine lv_null B.1 B.2.1 dX8_workToList_35 ?_
      refine lv_astoreN (lv' := [(4, .null), (0, .ref (ad 107)), (1, .int p1), (2, .int p2), (3, .int p3)]) B.1 B.2.1 dX8_workToList_36 hl (by decide) rfl (fun ls hl => ?_)
      refine lv_aloadN B.1 B.2.1 dX8_workToList_38 (lv_at hl 0 rfl) ?_
      refine lv_ifnonnullN B.1 B.2.1 dX8_workToList_40 ?_
      refine lv_aload_n B.1 B.2.1 dX8_workToList_43 rfl (lv_at hl 1 rfl) ?_
      refine lv_iconst (v := 4) B.1 B.2.1 dX8_workToList_44 (by decide) ?_
      refine lv_iload_n B.1 B.2.1 dX8_workToList_45 rfl (lv_at hl 3 rfl) ?_
      refine io_call_i Z (io_runV (ci := 8) (k := 107) [.int 4, .int p2] [] B Z (io_c_X8_fail l D ca ad A _ 4 p2 _ hw) io_k_8_116 (io_hR (by omega) (by decide)) rfl (by decide) (io_e_107 _) rfl hl.1 (Nat.le_of_ble_eq_true rfl) dX8_workToList_46 ⟨Nat.le_refl _, Nat.le_refl _⟩) (fun r7 s8 H locs hw Z => ?_)
      obtain ⟨b9, hw⟩ := hw
      refine lv_pop B.1 B.2.1 dX8_workToList_49 rfl ?_
      refine lv_aloadN B.1 B.2.1 dX8_workToList_50 (lv_at hl 0 rfl) ?_
      exact io_ret_n B Z hr hlk hw dX8_workToList_52
    · have hw := hw.1 k6
      refine lv_aload_n B.1 B.2.1 dX8_workToList_21 rfl (lv_at hl 0 rfl) ?_
      refine io_g_8_3 B Z dX8_workToList_22 ?_
      refine lv_aload_n B.1 B.2.1 dX8_workToList_25 rfl (lv_at hl 0 rfl) ?_
      refine io_g_8_8 B Z dX8_workToList_26 ?_
      refine io_call_q Z (io_runV (ci := 6) (k := 103) [.int (s3 107 8)] [] B Z (io_c_X6_pick l D ca ad A _ (s3 107 8) _ hw) io_k_8_146 (io_hR (by omega) (by decide)) rfl (by decide) (io_e_103 _) rfl hl.1 (Nat.le_of_ble_eq_true rfl) dX8_workToList_29 ⟨Nat.le_refl _, Nat.le_refl _⟩) (fun r10 s11 H locs hw Z => ?_)
      obtain ⟨o12, e_r10, h13, hw⟩ := hw
      subst e_r10
      rcases o12 with _ | i14
      · have hw := hw.1 rfl
        show W _ _ _ _ _ _ _ _ _ _ _ _ _ _ _ (F0 _ _ _ (Value.null :: _))
        refine lv_goto (tgt := 36) B.1 B.2.1 dX8_workToList_32 (by decide) ?_
        refine lv_astoreN (lv' := [(4, .null), (0, .ref (ad 107)), (1, .int p1), (2, .int p2), (3, .int p3)]) B.1 B.2.1 dX8_workToList_36 hl (by decide) rfl (fun ls hl => ?_)
        refine lv_aloadN B.1 B.2.1 dX8_workToList_38 (lv_at hl 0 rfl) ?_
        refine lv_ifnonnullN B.1 B.2.1 dX8_workToList_40 ?_
        refine lv_aload_n B.1 B.2.1 dX8_workToList_43 rfl (lv_at hl 1 rfl) ?_
        refine lv_iconst (v := 4) B.1 B.2.1 dX8_workToList_44 (by decide) ?_
        refine lv_iload_n B.1 B.2.1 dX8_workToList_45 rfl (lv_at hl 3 rfl) ?_
        refine io_call_i Z (io_runV (ci := 8) (k := 107) [.int 4, .int p2] [] B Z (io_c_X8_fail l D ca ad A _ 4 p2 _ hw) io_k_8_116 (io_hR (by omega) (by decide)) rfl (by decide) (io_e_107 _) rfl hl.1 (Nat.le_of_ble_eq_true rfl) dX8_workToList_46 ⟨Nat.le_refl _, Nat.le_refl _⟩) (fun r15 s16 H locs hw Z => ?_)
        obtain ⟨b17, hw⟩ := hw
        refine lv_pop B.1 B.2.1 dX8_workToList_49 rfl ?_
        refine lv_aloadN B.1 B.2.1 dX8_workToList_50 (lv_at hl 0 rfl) ?_
        exact io_ret_n B Z hr hlk hw dX8_workToList_52
      · have hw := hw.2 i14 rfl
        have h13 := h13 _ rfl
        show W _ _ _ _ _ _ _ _ _ _ _ _ _ _ _ (F0 _ _ _ (Value.ref (ad (40 + i14)) :: _))
        refine lv_goto (tgt := 36) B.1 B.2.1 dX8_workToList_32 (by decide) ?_
        refine lv_astore (lv' := [(4, .ref (ad (40 + i14))), (0, .ref (ad 107)), (1, .int p1), (2, .int p2), (3, .int p3)]) B.1 B.2.1 dX8_workToList_36 hl (by decide) rfl (fun ls hl => ?_)
        refine lv_aload B.1 B.2.1 dX8_workToList_38 (lv_at hl 0 rfl) ?_
        refine lv_ifnonnull (tgt := 50) B.1 B.2.1 dX8_workToList_40 (by decide) ?_
        refine lv_aload B.1 B.2.1 dX8_workToList_50 (lv_at hl 0 rfl) ?_
        exact io_ret_r B Z hr hlk h13 hw dX8_workToList_52
  · have hw := hw.1 k5
    refine lv_null B.1 B.2.1 dX8_workToList_11 ?_
    exact io_ret_n B Z hr hlk hw dX8_workToList_12
def wp_X8_workItem (K : io_M → Int32 → Int32 → (Int32 → io_M → Prop) → Prop) (σ : io_M) (p1 : Int32) (p2 : Int32) (post : Int32 → io_M → Prop) : Prop := (wp_X7_first σ p1 (fun r2 s3 => (wp_X8_workToList K s3 r2 p1 p2 (fun o6 s5 => (o6 = none → post 0 s5) ∧ (∀ i8, o6 = some i8 → (wp_X7_second s5 p1 (fun r9 s10 => (wp_X8_workToNumber K s10 r9 p1 p2 (fun r11 s12 => ((r11 = 0 → post 0 s12) ∧ (¬ (r11 = 0) → ((0 ≤ (s12 107 8) → (wp_X5_reach s12 i8 (s12 107 8) (fun r16 s17 => (wp_X8_noteTimes s17 p1 r16 (fun s19 => (wp_X5_item s19 i8 (s12 107 8) (fun r20 s21 => (wp_X8_give s21 0 r20 (fun r22 s23 => post r22 s23))))))))) ∧ (¬ (0 ≤ (s12 107 8)) → (wp_X8_fail s12 4 p1 (fun r25 s26 => post r25 s26)))))))))))))))
set_option maxHeartbeats 4000000 in
set_option maxRecDepth 100000 in
theorem io_c_X8_workItem (l : Launch) (D : va_G) (ca : Nat → ClassId) (ad : Nat → Nat) (A : Nat → Prop) (N : Nat) (K : io_M → Int32 → Int32 → (Int32 → io_M → Prop) → Prop) (hK : ∀ (σ : io_M) (p1 p2 : Int32) (post : Int32 → io_M → Prop), K σ p1 p2 post → Met l yX8_work (.code yX8_work cX8_work 3 (some .boolean) :: io_tb) (io_rm (N + 10)) (va_Pc [.ref (ad 107), .int p1, .int p2] (io_W D ca ad A σ)) (va_Qi (fun r u => io_bl r ∧ post r u) (io_W D ca ad A) A) 0 0 A) (σ : io_M) (p1 : Int32) (p2 : Int32) (post : Int32 → io_M → Prop) (hw : wp_X8_workItem K σ p1 p2 post) : Met l yX8_workItem (.code yX8_workItem cX8_workItem 5 (some .boolean) :: io_tb) (io_rm (N + 12)) (va_Pc [.ref (ad 107), .int p1, .int p2] (io_W D ca ad A σ)) (va_Qi (fun r u => io_bl r ∧ post r u) (io_W D ca ad A) A) 0 0 A := by
  refine Met.ofW (cc := cX8_workItem) (maxL := 5) (ret := (some .boolean)) (by decide) rfl ?_
  intro p e s m args below meth c s₁ Bd hml hv
  obtain ⟨rfl, hW0⟩ := hv
  have Z := io_Z.start hW0
  have B : CallFix p m c cX8_workItem 5 s _ io_tb RX8 := ⟨Bd.exec, Bd.bytes, hml, findClass_of_methodNamed Bd.named, fun w hw => atoms_spec (ws := (.code yX8_workItem cX8_workItem 5 (some .boolean) :: io_tb)) Bd.pre w (List.mem_cons_of_mem _ hw)⟩
  have hr := Bd.returns
  have hlk := Bd.notSynchronized
  have hl := lv_entry ([.ref (ad 107), .int p1, .int p2]) (n := 5) (Nat.le_of_ble_eq_true rfl)
  rw [lg_entry_eq]
  generalize (lg_sl ([.ref (ad 107), .int p1, .int p2]) ++ List.replicate (5 - (lg_sl ([.ref (ad 107), .int p1, .int p2])).length) Slot.unset).toArray = ls at hl ⊢
  have hl : lv_has ls 5 [(0, .ref (ad 107)), (1, .int p1), (2, .int p2)] := hl
  show W p l e (io_rm (N + 12)) s m _ below meth c s.heap [] 0 0 _ (F0 m 0 ls [])
  unfold wp_X8_workItem at hw
  refine lv_aload_n B.1 B.2.1 dX8_workItem_0 rfl (lv_at hl 0 rfl) ?_
  refine lv_aload_n B.1 B.2.1 dX8_workItem_1 rfl (lv_at hl 0 rfl) ?_
  refine io_g_8_0 B Z dX8_workItem_2 ?_
  refine lv_iload_n B.1 B.2.1 dX8_workItem_5 rfl (lv_at hl 1 rfl) ?_
  refine io_call_i Z (io_runV (ci := 7) (k := 96) [.int p1] [.ref (ad 107)] B Z (io_c_X7_first l D ca ad A _ p1 _ hw) io_k_8_85 (io_hR (by omega) (by decide)) rfl (by decide) (io_e_96 _) rfl hl.1 (Nat.le_of_ble_eq_true rfl) dX8_workItem_6 ⟨Nat.le_refl _, Nat.le_refl _⟩) (fun r2 s3 H locs hw Z => ?_)
  refine lv_iload_n B.1 B.2.1 dX8_workItem_9 rfl (lv_at hl 1 rfl) ?_
  refine lv_iload_n B.1 B.2.1 dX8_workItem_10 rfl (lv_at hl 2 rfl) ?_
  refine io_call_q Z (io_runV (ci := 8) (k := 107) [.int r2, .int p1, .int p2] [] B Z (io_c_X8_workToList l D ca ad A N K hK _ r2 p1 p2 _ hw) io_k_8_201 (io_hR (by omega) (by decide)) rfl (by decide) (io_e_107 _) rfl hl.1 (Nat.le_of_ble_eq_true rfl) dX8_workItem_11 ⟨Nat.le_refl _, Nat.le_refl _⟩) (fun r4 s5 H locs hw Z => ?_)
  obtain ⟨o6, e_r4, h7, hw⟩ := hw
  subst e_r4
  rcases o6 with _ | i8
  · have hw := hw.1 rfl
    show W _ _ _ _ _ _ _ _ _ _ _ _ _ _ _ (F0 _ _ _ (Value.null :: _))
    refine lv_astore_nN (lv' := [(3, .null), (0, .ref (ad 107)), (1, .int p1), (2, .int p2)]) B.1 B.2.1 dX8_workItem_14 rfl hl (by decide) rfl (fun ls hl => ?_)
    refine lv_aload_nN B.1 B.2.1 dX8_workItem_15 rfl (lv_at hl 0 rfl) ?_
    refine lv_ifnullN (tgt := 36) B.1 B.2.1 dX8_workItem_16 (by decide) ?_
    refine lv_iconst (v := 0) B.1 B.2.1 dX8_workItem_36 (by decide) ?_
    exact io_ret_z B Z hr hlk (Or.inl rfl) hw dX8_workItem_37
  · have hw := hw.2 i8 rfl
    have h7 := h7 _ rfl
    show W _ _ _ _ _ _ _ _ _ _ _ _ _ _ _ (F0 _ _ _ (Value.ref (ad (40 + i8)) :: _))
    refine lv_astore_n (lv' := [(3, .ref (ad (40 + i8))), (0, .ref (ad 107)), (1, .int p1), (2, .int p2)]) B.1 B.2.1 dX8_workItem_14 rfl hl (by decide) rfl (fun ls hl => ?_)
    refine lv_aload_n B.1 B.2.1 dX8_workItem_15 rfl (lv_at hl 0 rfl) ?_
    refine lv_ifnull B.1 B.2.1 dX8_workItem_16 ?_
    refine lv_aload_n B.1 B.2.1 dX8_workItem_19 rfl (lv_at hl 1 rfl) ?_
    refine lv_aload_n B.1 B.2.1 dX8_workItem_20 rfl (lv_at hl 1 rfl) ?_
    refine io_g_8_0 B Z dX8_workItem_21 ?_
    refine lv_iload_n B.1 B.2.1 dX8_workItem_24 rfl (lv_at hl 2 rfl) ?_
    refine io_call_i Z (io_runV (ci := 7) (k := 96) [.int p1] [.ref (ad 107)] B Z (io_c_X7_second l D ca ad A _ p1 _ hw) io_k_8_110 (io_hR (by omega) (by decide)) rfl (by decide) (io_e_96 _) rfl hl.1 (Nat.le_of_ble_eq_true rfl) dX8_workItem_25 ⟨Nat.le_refl _, Nat.le_refl _⟩) (fun r9 s10 H locs hw Z => ?_)
    refine lv_iload_n B.1 B.2.1 dX8_workItem_28 rfl (lv_at hl 2 rfl) ?_
    refine lv_iload_n B.1 B.2.1 dX8_workItem_29 rfl (lv_at hl 3 rfl) ?_
    refine io_call_i Z (io_runV (ci := 8) (k := 107) [.int r9, .int p1, .int p2] [] B Z (io_c_X8_workToNumber l D ca ad A N K hK _ r9 p1 p2 _ hw) io_k_8_192 (io_hR (by omega) (by decide)) rfl (by decide) (io_e_107 _) rfl hl.1 (Nat.le_of_ble_eq_true rfl) dX8_workItem_30 ⟨Nat.le_refl _, Nat.le_refl _⟩) (fun r11 s12 H locs hw Z => ?_)
    obtain ⟨b13, hw⟩ := hw
    refine lv_if_ne (tgt := 38) B.1 B.2.1 dX8_workItem_33 (by decide) (fun k14 => ?_) (fun k14 => ?_)
    · have hw := hw.2 k14
      refine lv_aload_n B.1 B.2.1 dX8_workItem_38 rfl (lv_at hl 1 rfl) ?_
      refine io_g_8_8 B Z dX8_workItem_39 ?_
      refine lv_istore (lv' := [(4, .int (s12 107 8)), (3, .ref (ad (40 + i8))), (0, .ref (ad 107)), (1, .int p1), (2, .int p2)]) B.1 B.2.1 dX8_workItem_42 hl (by decide) rfl (fun ls hl => ?_)
      refine lv_iload B.1 B.2.1 dX8_workItem_44 (lv_at hl 0 rfl) ?_
      refine lv_if_ge (tgt := 56) B.1 B.2.1 dX8_workItem_46 (by decide) (fun k15 => ?_) (fun k15 => ?_)
      · have hw := hw.1 k15
        refine lv_aload_n B.1 B.2.1 dX8_workItem_56 rfl (lv_at hl 2 rfl) ?_
        refine lv_iload_n B.1 B.2.1 dX8_workItem_57 rfl (lv_at hl 3 rfl) ?_
        refine lv_aload_n B.1 B.2.1 dX8_workItem_58 rfl (lv_at hl 1 rfl) ?_
        refine lv_iload B.1 B.2.1 dX8_workItem_59 (lv_at hl 0 rfl) ?_
        refine io_call_i Z (io_runV (ci := 5) (k := (40 + i8)) [.int (s12 107 8)] [.int p1, .ref (ad 107)] B Z (io_c_X5_reach l D ca ad A _ i8 (s12 107 8) h7 _ hw) io_k_8_205 (io_hR (by omega) (by decide)) rfl (by have := h7; omega) (io_e5 h7 _) rfl hl.1 (Nat.le_of_ble_eq_true rfl) dX8_workItem_61 ⟨Nat.le_refl _, Nat.le_refl _⟩) (fun r16 s17 H locs hw Z => ?_)
        refine io_call_v Z (io_runV (ci := 8) (k := 107) [.int p1, .int r16] [] B Z (io_c_X8_noteTimes l D ca ad A _ p1 r16 _ hw) io_k_8_210 (io_hR (by omega) (by decide)) rfl (by decide) (io_e_107 _) rfl hl.1 (Nat.le_of_ble_eq_true rfl) dX8_workItem_64 ⟨Nat.le_refl _, Nat.le_refl _⟩) (fun s19 H locs hw Z => ?_)
        refine lv_aload_n B.1 B.2.1 dX8_workItem_67 rfl (lv_at hl 2 rfl) ?_
        refine lv_iconst (v := 0) B.1 B.2.1 dX8_workItem_68 (by decide) ?_
        refine lv_aload_n B.1 B.2.1 dX8_workItem_69 rfl (lv_at hl 1 rfl) ?_
        refine lv_iload B.1 B.2.1 dX8_workItem_70 (lv_at hl 0 rfl) ?_
        refine io_call_i Z (io_runV (ci := 5) (k := (40 + i8)) [.int (s12 107 8)] [.int 0, .ref (ad 107)] B Z (io_c_X5_item l D ca ad A _ i8 (s12 107 8) h7 _ hw) io_k_8_214 (io_hR (by omega) (by decide)) rfl (by have := h7; omega) (io_e5 h7 _) rfl hl.1 (Nat.le_of_ble_eq_true rfl) dX8_workItem_72 ⟨Nat.le_refl _, Nat.le_refl _⟩) (fun r20 s21 H locs hw Z => ?_)
        refine io_call_i Z (io_runV (ci := 8) (k := 107) [.int 0, .int r20] [] B Z (io_c_X8_give l D ca ad A _ 0 r20 _ hw) io_k_8_88 (io_hR (by omega) (by decide)) rfl (by decide) (io_e_107 _) rfl hl.1 (Nat.le_of_ble_eq_true rfl) dX8_workItem_75 ⟨Nat.le_refl _, Nat.le_refl _⟩) (fun r22 s23 H locs hw Z => ?_)
        obtain ⟨b24, hw⟩ := hw
        exact io_ret_z B Z hr hlk b24 hw dX8_workItem_78
      · have hw := hw.2 k15
        refine lv_aload_n B.1 B.2.1 dX8_workItem_49 rfl (lv_at hl 2 rfl) ?_
        refine lv_iconst (v := 4) B.1 B.2.1 dX8_workItem_50 (by decide) ?_
        refine lv_iload_n B.1 B.2.1 dX8_workItem_51 rfl (lv_at hl 3 rfl) ?_
        refine io_call_i Z (io_runV (ci := 8) (k := 107) [.int 4, .int p1] [] B Z (io_c_X8_fail l D ca ad A _ 4 p1 _ hw) io_k_8_116 (io_hR (by omega) (by decide)) rfl (by decide) (io_e_107 _) rfl hl.1 (Nat.le_of_ble_eq_true rfl) dX8_workItem_52 ⟨Nat.le_refl _, Nat.le_refl _⟩) (fun r25 s26 H locs hw Z => ?_)
        obtain ⟨b27, hw⟩ := hw
        exact io_ret_z B Z hr hlk b27 hw dX8_workItem_55
    · have hw := hw.1 k14
      refine lv_iconst (v := 0) B.1 B.2.1 dX8_workItem_36 (by decide) ?_
      exact io_ret_z B Z hr hlk (Or.inl rfl) hw dX8_workItem_37
def wp_X8_workLength (K : io_M → Int32 → Int32 → (Int32 → io_M → Prop) → Prop) (σ : io_M) (p1 : Int32) (p2 : Int32) (post : Int32 → io_M → Prop) : Prop := (wp_X7_first σ p1 (fun r2 s3 => (wp_X8_workToList K s3 r2 p1 p2 (fun o6 s5 => (o6 = none → post 0 s5) ∧ (∀ i8, o6 = some i8 → (wp_X5_reach s5 i8 40 (fun r9 s10 => (wp_X8_noteTimes s10 p1 r9 (fun s12 => (wp_X5_length s12 i8 (fun r13 s14 => (wp_X8_give s14 0 r13 (fun r15 s16 => post r15 s16)))))))))))))
set_option maxHeartbeats 4000000 in
set_option maxRecDepth 100000 in
theorem io_c_X8_workLength (l : Launch) (D : va_G) (ca : Nat → ClassId) (ad : Nat → Nat) (A : Nat → Prop) (N : Nat) (K : io_M → Int32 → Int32 → (Int32 → io_M → Prop) → Prop) (hK : ∀ (σ : io_M) (p1 p2 : Int32) (post : Int32 → io_M → Prop), K σ p1 p2 post → Met l yX8_work (.code yX8_work cX8_work 3 (some .boolean) :: io_tb) (io_rm (N + 10)) (va_Pc [.ref (ad 107), .int p1, .int p2] (io_W D ca ad A σ)) (va_Qi (fun r u => io_bl r ∧ post r u) (io_W D ca ad A) A) 0 0 A) (σ : io_M) (p1 : Int32) (p2 : Int32) (post : Int32 → io_M → Prop) (hw : wp_X8_workLength K σ p1 p2 post) : Met l yX8_workLength (.code yX8_workLength cX8_workLength 4 (some .boolean) :: io_tb) (io_rm (N + 12)) (va_Pc [.ref (ad 107), .int p1, .int p2] (io_W D ca ad A σ)) (va_Qi (fun r u => io_bl r ∧ post r u) (io_W D ca ad A) A) 0 0 A := by
  refine Met.ofW (cc := cX8_workLength) (maxL := 4) (ret := (some .boolean)) (by decide) rfl ?_
  intro p e s m args below meth c s₁ Bd hml hv
  obtain ⟨rfl, hW0⟩ := hv
  have Z := io_Z.start hW0
  have B : CallFix p m c cX8_workLength 4 s _ io_tb RX8 := ⟨Bd.exec, Bd.bytes, hml, findClass_of_methodNamed Bd.named, fun w hw => atoms_spec (ws := (.code yX8_workLength cX8_workLength 4 (some .boolean) :: io_tb)) Bd.pre w (List.mem_cons_of_mem _ hw)⟩
  have hr := Bd.returns
  have hlk := Bd.notSynchronized
  have hl := lv_entry ([.ref (ad 107), .int p1, .int p2]) (n := 4) (Nat.le_of_ble_eq_true rfl)
  rw [lg_entry_eq]
  generalize (lg_sl ([.ref (ad 107), .int p1, .int p2]) ++ List.replicate (4 - (lg_sl ([.ref (ad 107), .int p1, .int p2])).length) Slot.unset).toArray = ls at hl ⊢
  have hl : lv_has ls 4 [(0, .ref (ad 107)), (1, .int p1), (2, .int p2)] := hl
  show W p l e (io_rm (N + 12)) s m _ below meth c s.heap [] 0 0 _ (F0 m 0 ls [])
  unfold wp_X8_workLength at hw
  refine lv_aload_n B.1 B.2.1 dX8_workLength_0 rfl (lv_at hl 0 rfl) ?_
  refine lv_aload_n B.1 B.2.1 dX8_workLength_1 rfl (lv_at hl 0 rfl) ?_
  refine io_g_8_0 B Z dX8_workLength_2 ?_
  refine lv_iload_n B.1 B.2.1 dX8_workLength_5 rfl (lv_at hl 1 rfl) ?_
  refine io_call_i Z (io_runV (ci := 7) (k := 96) [.int p1] [.ref (ad 107)] B Z (io_c_X7_first l D ca ad A _ p1 _ hw) io_k_8_85 (io_hR (by omega) (by decide)) rfl (by decide) (io_e_96 _) rfl hl.1 (Nat.le_of_ble_eq_true rfl) dX8_workLength_6 ⟨Nat.le_refl _, Nat.le_refl _⟩) (fun r2 s3 H locs hw Z => ?_)
  refine lv_iload_n B.1 B.2.1 dX8_workLength_9 rfl (lv_at hl 1 rfl) ?_
  refine lv_iload_n B.1 B.2.1 dX8_workLength_10 rfl (lv_at hl 2 rfl) ?_
  refine io_call_q Z (io_runV (ci := 8) (k := 107) [.int r2, .int p1, .int p2] [] B Z (io_c_X8_workToList l D ca ad A N K hK _ r2 p1 p2 _ hw) io_k_8_201 (io_hR (by omega) (by decide)) rfl (by decide) (io_e_107 _) rfl hl.1 (Nat.le_of_ble_eq_true rfl) dX8_workLength_11 ⟨Nat.le_refl _, Nat.le_refl _⟩) (fun r4 s5 H locs hw Z => ?_)
  obtain ⟨o6, e_r4, h7, hw⟩ := hw
  subst e_r4
  rcases o6 with _ | i8
  · have hw := hw.1 rfl
    show W _ _ _ _ _ _ _ _ _ _ _ _ _ _ _ (F0 _ _ _ (Value.null :: _))
    refine lv_astore_nN (lv' := [(3, .null), (0, .ref (ad 107)), (1, .int p1), (2, .int p2)]) B.1 B.2.1 dX8_workLength_14 rfl hl (by decide) rfl (fun ls hl => ?_)
    refine lv_aload_nN B.1 B.2.1 dX8_workLength_15 rfl (lv_at hl 0 rfl) ?_
    refine lv_ifnonnullN B.1 B.2.1 dX8_workLength_16 ?_
    refine lv_iconst (v := 0) B.1 B.2.1 dX8_workLength_19 (by decide) ?_
    exact io_ret_z B Z hr hlk (Or.inl rfl) hw dX8_workLength_20
  · have hw := hw.2 i8 rfl
    have h7 := h7 _ rfl
    show W _ _ _ _ _ _ _ _ _ _ _ _ _ _ _ (F0 _ _ _ (Value.ref (ad (40 + i8)) :: _))
    refine lv_astore_n (lv' := [(3, .ref (ad (40 + i8))), (0, .ref (ad 107)), (1, .int p1), (2, .int p2)]) B.1 B.2.1 dX8_workLength_14 rfl hl (by decide) rfl (fun ls hl => ?_)
    refine lv_aload_n B.1 B.2.1 dX8_workLength_15 rfl (lv_at hl 0 rfl) ?_
    refine lv_ifnonnull (tgt := 21) B.1 B.2.1 dX8_workLength_16 (by decide) ?_
    refine lv_aload_n B.1 B.2.1 dX8_workLength_21 rfl (lv_at hl 1 rfl) ?_
    refine lv_iload_n B.1 B.2.1 dX8_workLength_22 rfl (lv_at hl 2 rfl) ?_
    refine lv_aload_n B.1 B.2.1 dX8_workLength_23 rfl (lv_at hl 0 rfl) ?_
    refine lv_bipush (v := 40) B.1 B.2.1 dX8_workLength_24 (by decide) ?_
    refine io_call_i Z (io_runV (ci := 5) (k := (40 + i8)) [.int 40] [.int p1, .ref (ad 107)] B Z (io_c_X5_reach l D ca ad A _ i8 40 h7 _ hw) io_k_8_205 (io_hR (by omega) (by decide)) rfl (by have := h7; omega) (io_e5 h7 _) rfl hl.1 (Nat.le_of_ble_eq_true rfl) dX8_workLength_26 ⟨Nat.le_refl _, Nat.le_refl _⟩) (fun r9 s10 H locs hw Z => ?_)
    refine io_call_v Z (io_runV (ci := 8) (k := 107) [.int p1, .int r9] [] B Z (io_c_X8_noteTimes l D ca ad A _ p1 r9 _ hw) io_k_8_210 (io_hR (by omega) (by decide)) rfl (by decide) (io_e_107 _) rfl hl.1 (Nat.le_of_ble_eq_true rfl) dX8_workLength_29 ⟨Nat.le_refl _, Nat.le_refl _⟩) (fun s12 H locs hw Z => ?_)
    refine lv_aload_n B.1 B.2.1 dX8_workLength_32 rfl (lv_at hl 1 rfl) ?_
    refine lv_iconst (v := 0) B.1 B.2.1 dX8_workLength_33 (by decide) ?_
    refine lv_aload_n B.1 B.2.1 dX8_workLength_34 rfl (lv_at hl 0 rfl) ?_
    refine io_call_i Z (io_runV (ci := 5) (k := (40 + i8)) [] [.int 0, .ref (ad 107)] B Z (io_c_X5_length l D ca ad A _ i8 h7 _ hw) io_k_8_217 (io_hR (by omega) (by decide)) rfl (by have := h7; omega) (io_e5 h7 _) rfl hl.1 (Nat.le_of_ble_eq_true rfl) dX8_workLength_35 ⟨Nat.le_refl _, Nat.le_refl _⟩) (fun r13 s14 H locs hw Z => ?_)
    refine io_call_i Z (io_runV (ci := 8) (k := 107) [.int 0, .int r13] [] B Z (io_c_X8_give l D ca ad A _ 0 r13 _ hw) io_k_8_88 (io_hR (by omega) (by decide)) rfl (by decide) (io_e_107 _) rfl hl.1 (Nat.le_of_ble_eq_true rfl) dX8_workLength_38 ⟨Nat.le_refl _, Nat.le_refl _⟩) (fun r15 s16 H locs hw Z => ?_)
    obtain ⟨b17, hw⟩ := hw
    exact io_ret_z B Z hr hlk b17 hw dX8_workLength_41
def wl_X8_workTimes_12 (K : io_M → Int32 → Int32 → (Int32 → io_M → Prop) → Prop) : Nat → io_M → Int32 → Int32 → Int32 → Int32 → (Int32 → io_M → Prop) → Prop
  | 0, _, _, _, _, _, _ => False
  | n + 1, σ, x1, x3, x4, x5, post => ((x4 ≤ x5 → (wp_X8_give σ 0 0 (fun r102 s103 => post r102 s103))) ∧ (¬ (x4 ≤ x5) → (K σ x1 (x3 + 1) (fun r105 s106 => ((r105 = 0 → post 0 s106) ∧ (¬ (r105 = 0) → wl_X8_workTimes_12 K n s106 x1 x3 x4 (x5 + 1) post))))))
def wp_X8_workTimes (K : io_M → Int32 → Int32 → (Int32 → io_M → Prop) → Prop) (σ : io_M) (p1 : Int32) (p2 : Int32) (p3 : Int32) (post : Int32 → io_M → Prop) : Prop := (∃ n, wl_X8_workTimes_12 K n σ p1 p3 (if 600 < p2 then 600 else p2) 0 post)
set_option maxHeartbeats 4000000 in
set_option maxRecDepth 100000 in
theorem io_c_X8_workTimes (l : Launch) (D : va_G) (ca : Nat → ClassId) (ad : Nat → Nat) (A : Nat → Prop) (N : Nat) (K : io_M → Int32 → Int32 → (Int32 → io_M → Prop) → Prop) (hK : ∀ (σ : io_M) (p1 p2 : Int32) (post : Int32 → io_M → Prop), K σ p1 p2 post → Met l yX8_work (.code yX8_work cX8_work 3 (some .boolean) :: io_tb) (io_rm (N + 10)) (va_Pc [.ref (ad 107), .int p1, .int p2] (io_W D ca ad A σ)) (va_Qi (fun r u => io_bl r ∧ post r u) (io_W D ca ad A) A) 0 0 A) (σ : io_M) (p1 : Int32) (p2 : Int32) (p3 : Int32) (post : Int32 → io_M → Prop) (hw : wp_X8_workTimes K σ p1 p2 p3 post) : Met l yX8_workTimes (.code yX8_workTimes cX8_workTimes 6 (some .boolean) :: io_tb) (io_rm (N + 11)) (va_Pc [.ref (ad 107), .int p1, .int p2, .int p3] (io_W D ca ad A σ)) (va_Qi (fun r u => io_bl r ∧ post r u) (io_W D ca ad A) A) 0 0 A := by
  refine Met.ofW (cc := cX8_workTimes) (maxL := 6) (ret := (some .boolean)) (by decide) rfl ?_
  intro p e s m args below meth c s₁ Bd hml hv
  obtain ⟨rfl, hW0⟩ := hv
  have Z := io_Z.start hW0
  have B : CallFix p m c cX8_workTimes 6 s _ io_tb RX8 := ⟨Bd.exec, Bd.bytes, hml, findClass_of_methodNamed Bd.named, fun w hw => atoms_spec (ws := (.code yX8_workTimes cX8_workTimes 6 (some .boolean) :: io_tb)) Bd.pre w (List.mem_cons_of_mem _ hw)⟩
  have hr := Bd.returns
  have hlk := Bd.notSynchronized
  have hl := lv_entry ([.ref (ad 107), .int p1, .int p2, .int p3]) (n := 6) (Nat.le_of_ble_eq_true rfl)
  rw [lg_entry_eq]
  generalize (lg_sl ([.ref (ad 107), .int p1, .int p2, .int p3]) ++ List.replicate (6 - (lg_sl ([.ref (ad 107), .int p1, .int p2, .int p3])).length) Slot.unset).toArray = ls at hl ⊢
  have hl : lv_has ls 6 [(0, .ref (ad 107)), (1, .int p1), (2, .int p2), (3, .int p3)] := hl
  show W p l e (io_rm (N + 11)) s m _ below meth c s.heap [] 0 0 _ (F0 m 0 ls [])
  have LP12 : ∀ (n : Nat) (σ : io_M) (x1 : Int32) (x3 : Int32) (x4 : Int32) (x5 : Int32), wl_X8_workTimes_12 K n σ x1 x3 x4 x5 post → ∀ (H : Heap) (locs : List Loc), io_Z D ca ad A s H locs σ → ∀ ls : Array Slot, lv_has ls 6 [(0, .ref (ad 107)), (1, .int x1), (3, .int x3), (4, .int x4), (5, .int x5)] → W p l e (io_rm (N + 11)) s m ([.ref (ad 107), .int p1, .int p2, .int p3] : List Value).toArray below meth c H locs 0 0 (MQ below (va_Qi (fun r u => io_bl r ∧ post r u) (io_W D ca ad A) A) ([.ref (ad 107), .int p1, .int p2, .int p3] : List Value).toArray s 0 0 A) (F0 m 12 ls []) := by
    intro n
    induction n with
    | zero =>
      intro σ x1 x3 x4 x5 hw
      exact hw.elim
    | succ n IH12 =>
      intro σ x1 x3 x4 x5 hw H locs Z ls hl
      unfold wl_X8_workTimes_12 at hw
      refine lv_iload B.1 B.2.1 dX8_workTimes_12 (lv_at hl 4 rfl) ?_
      refine lv_iload B.1 B.2.1 dX8_workTimes_14 (lv_at hl 3 rfl) ?_
      refine lv_icmp_ge (tgt := 38) B.1 B.2.1 dX8_workTimes_16 (by decide) (fun k101 => ?_) (fun k101 => ?_)
      · have hw := hw.1 k101
        refine lv_aload_n B.1 B.2.1 dX8_workTimes_38 rfl (lv_at hl 0 rfl) ?_
        refine lv_iconst (v := 0) B.1 B.2.1 dX8_workTimes_39 (by decide) ?_
        refine lv_iconst (v := 0) B.1 B.2.1 dX8_workTimes_40 (by decide) ?_
        refine io_call_i Z (io_runV (ci := 8) (k := 107) [.int 0, .int 0] [] B Z (io_c_X8_give l D ca ad A _ 0 0 _ hw) io_k_8_88 (io_hR (by omega) (by decide)) rfl (by decide) (io_e_107 _) rfl hl.1 (Nat.le_of_ble_eq_true rfl) dX8_workTimes_41 ⟨Nat.le_refl _, Nat.le_refl _⟩) (fun r102 s103 H locs hw Z => ?_)
        obtain ⟨b104, hw⟩ := hw
        exact io_ret_z B Z hr hlk b104 hw dX8_workTimes_44
      · have hw := hw.2 k101
        refine lv_aload_n B.1 B.2.1 dX8_workTimes_19 rfl (lv_at hl 0 rfl) ?_
        refine lv_iload_n B.1 B.2.1 dX8_workTimes_20 rfl (lv_at hl 1 rfl) ?_
        refine lv_iload_n B.1 B.2.1 dX8_workTimes_21 rfl (lv_at hl 2 rfl) ?_
        refine lv_iconst (v := 1) B.1 B.2.1 dX8_workTimes_22 (by decide) ?_
        refine lv_iadd B.1 B.2.1 dX8_workTimes_23 ?_
        refine io_call_i Z (io_runV (ci := 8) (k := 107) [.int x1, .int (x3 + 1)] [] B Z (hK _ x1 (x3 + 1) _ hw) io_k_8_68 (io_hR (by omega) (by decide)) rfl (by decide) (io_e_107 _) rfl hl.1 (Nat.le_of_ble_eq_true rfl) dX8_workTimes_24 ⟨Nat.le_refl _, Nat.le_refl _⟩) (fun r105 s106 H locs hw Z => ?_)
        obtain ⟨b107, hw⟩ := hw
        refine lv_if_ne (tgt := 32) B.1 B.2.1 dX8_workTimes_27 (by decide) (fun k108 => ?_) (fun k108 => ?_)
        · have hw := hw.2 k108
          refine lv_iinc (v := (x5 + 1)) (lv' := [(5, .int (x5 + 1)), (0, .ref (ad 107)), (1, .int x1), (3, .int x3), (4, .int x4)]) B.1 B.2.1 dX8_workTimes_32 hl (k := 4) rfl rfl (by decide) rfl (fun ls hl => ?_)
          refine lv_goto (tgt := 12) B.1 B.2.1 dX8_workTimes_35 (by decide) ?_
          exact IH12 _ x1 x3 x4 (x5 + 1) hw _ _ Z _ (lv_sub (l' := [(0, .ref (ad 107)), (1, .int x1), (3, .int x3), (4, .int x4), (5, .int (x5 + 1))]) hl [1, 2, 3, 4, 0] rfl)
        · have hw := hw.1 k108
          refine lv_iconst (v := 0) B.1 B.2.1 dX8_workTimes_30 (by decide) ?_
          exact io_ret_z B Z hr hlk (Or.inl rfl) hw dX8_workTimes_31
  unfold wp_X8_workTimes at hw
  refine lv_iload_n B.1 B.2.1 dX8_workTimes_0 rfl (lv_at hl 2 rfl) ?_
  refine lv_sipush (v := 600) B.1 B.2.1 dX8_workTimes_1 (by decide) ?_
  refine va_mmin B.1 B.2.1 (B.2.2.1.trans hl.1.symm) B.2.2.2.1 (B.2.2.2.2 _ (io_of 667 (by decide +kernel) (by decide +kernel))) (B.2.2.2.2 _ (io_of 551 (by decide +kernel) (by decide +kernel))) (B.2.2.2.2 _ (io_of 77 (by decide +kernel) (by decide +kernel))) (B.2.2.2.2 _ (io_of 552 (by decide +kernel) (by decide +kernel))) (by simp only [io_rm]; omega) (Nat.le_trans (m := 40) (Nat.le_of_ble_eq_true rfl) (by simp only [io_rm]; omega)) (Nat.le_refl _) (Nat.le_refl _) dX8_workTimes_4 ?_
  refine lv_istore (lv' := [(4, .int (if 600 < p2 then 600 else p2)), (0, .ref (ad 107)), (1, .int p1), (2, .int p2), (3, .int p3)]) B.1 B.2.1 dX8_workTimes_7 hl (by decide) rfl (fun ls hl => ?_)
  refine lv_iconst (v := 0) B.1 B.2.1 dX8_workTimes_9 (by decide) ?_
  refine lv_istore (lv' := [(5, .int 0), (4, .int (if 600 < p2 then 600 else p2)), (0, .ref (ad 107)), (1, .int p1), (2, .int p2), (3, .int p3)]) B.1 B.2.1 dX8_workTimes_10 hl (by decide) rfl (fun ls hl => ?_)
  obtain ⟨n, hw⟩ := hw
  exact LP12 n _ p1 p3 (if 600 < p2 then 600 else p2) 0 hw _ _ Z _ (lv_sub (l' := [(0, .ref (ad 107)), (1, .int p1), (3, .int p3), (4, .int (if 600 < p2 then 600 else p2)), (5, .int 0)]) hl [2, 3, 5, 1, 0] rfl)
def wp_X8_workNumberFirst (K : io_M → Int32 → Int32 → (Int32 → io_M → Prop) → Prop) (σ : io_M) (p1 : Int32) (p2 : Int32) (post : Int32 → io_M → Prop) : Prop := (wp_X7_first σ p1 (fun r2 s3 => (wp_X8_workToNumber K s3 r2 p1 p2 (fun r4 s5 => ((r4 = 0 → post 0 s5) ∧ (¬ (r4 = 0) → (wp_X7_code s5 p1 (fun r8 s9 => ((r8 = 17 → (wp_X0_print s9 (s9 107 8) (fun r11 s12 => (wp_X8_act s12 p1 0 r11 (fun r13 s14 => post r13 s14))))) ∧ (¬ (r8 = 17) → ((r8 = 20 → (((s9 107 8) = 0 → (wp_X7_third s9 p1 (fun r18 s19 => (K s19 r18 (p2 + 1) (fun r20 s21 => post r20 s21))))) ∧ (¬ ((s9 107 8) = 0) → (wp_X7_second s9 p1 (fun r23 s24 => (K s24 r23 (p2 + 1) (fun r25 s26 => post r25 s26))))))) ∧ (¬ (r8 = 20) → ((r8 = 25 → (∀ s29, s29 = io_up s9 107 7 4 → post 0 s29)) ∧ (¬ (r8 = 25) → (wp_X7_second s9 p1 (fun r31 s32 => (wp_X8_workTimes K s32 r31 (s32 107 8) p2 (fun r33 s34 => post r33 s34))))))))))))))))))
set_option maxHeartbeats 4000000 in
set_option maxRecDepth 100000 in
theorem io_c_X8_workNumberFirst (l : Launch) (D : va_G) (ca : Nat → ClassId) (ad : Nat → Nat) (A : Nat → Prop) (N : Nat) (K : io_M → Int32 → Int32 → (Int32 → io_M → Prop) → Prop) (hK : ∀ (σ : io_M) (p1 p2 : Int32) (post : Int32 → io_M → Prop), K σ p1 p2 post → Met l yX8_work (.code yX8_work cX8_work 3 (some .boolean) :: io_tb) (io_rm (N + 10)) (va_Pc [.ref (ad 107), .int p1, .int p2] (io_W D ca ad A σ)) (va_Qi (fun r u => io_bl r ∧ post r u) (io_W D ca ad A) A) 0 0 A) (σ : io_M) (p1 : Int32) (p2 : Int32) (post : Int32 → io_M → Prop) (hw : wp_X8_workNumberFirst K σ p1 p2 post) : Met l yX8_workNumberFirst (.code yX8_workNumberFirst cX8_workNumberFirst 3 (some .boolean) :: io_tb) (io_rm (N + 12)) (va_Pc [.ref (ad 107), .int p1, .int p2] (io_W D ca ad A σ)) (va_Qi (fun r u => io_bl r ∧ post r u) (io_W D ca ad A) A) 0 0 A := by
  refine Met.ofW (cc := cX8_workNumberFirst) (maxL := 3) (ret := (some .boolean)) (by decide) rfl ?_
  intro p e s m args below meth c s₁ Bd hml hv
  obtain ⟨rfl, hW0⟩ := hv
  have Z := io_Z.start hW0
  have B : CallFix p m c cX8_workNumberFirst 3 s _ io_tb RX8 := ⟨Bd.exec, Bd.bytes, hml, findClass_of_methodNamed Bd.named, fun w hw => atoms_spec (ws := (.code yX8_workNumberFirst cX8_workNumberFirst 3 (some .boolean) :: io_tb)) Bd.pre w (List.mem_cons_of_mem _ hw)⟩
  have hr := Bd.returns
  have hlk := Bd.notSynchronized
  have hl := lv_entry ([.ref (ad 107), .int p1, .int p2]) (n := 3) (Nat.le_of_ble_eq_true rfl)
  rw [lg_entry_eq]
  generalize (lg_sl ([.ref (ad 107), .int p1, .int p2]) ++ List.replicate (3 - (lg_sl ([.ref (ad 107), .int p1, .int p2])).length) Slot.unset).toArray = ls at hl ⊢
  have hl : lv_has ls 3 [(0, .ref (ad 107)), (1, .int p1), (2, .int p2)] := hl
  show W p l e (io_rm (N + 12)) s m _ below meth c s.heap [] 0 0 _ (F0 m 0 ls [])
  unfold wp_X8_workNumberFirst at hw
  refine lv_aload_n B.1 B.2.1 dX8_workNumberFirst_0 rfl (lv_at hl 0 rfl) ?_
  refine lv_aload_n B.1 B.2.1 dX8_workNumberFirst_1 rfl (lv_at hl 0 rfl) ?_
  refine io_g_8_0 B Z dX8_workNumberFirst_2 ?_
  refine lv_iload_n B.1 B.2.1 dX8_workNumberFirst_5 rfl (lv_at hl 1 rfl) ?_
  refine io_call_i Z (io_runV (ci := 7) (k := 96) [.int p1] [.ref (ad 107)] B Z (io_c_X7_first l D ca ad A _ p1 _ hw) io_k_8_85 (io_hR (by omega) (by decide)) rfl (by decide) (io_e_96 _) rfl hl.1 (Nat.le_of_ble_eq_true rfl) dX8_workNumberFirst_6 ⟨Nat.le_refl _, Nat.le_refl _⟩) (fun r2 s3 H locs hw Z => ?_)
  refine lv_iload_n B.1 B.2.1 dX8_workNumberFirst_9 rfl (lv_at hl 1 rfl) ?_
  refine lv_iload_n B.1 B.2.1 dX8_workNumberFirst_10 rfl (lv_at hl 2 rfl) ?_
  refine io_call_i Z (io_runV (ci := 8) (k := 107) [.int r2, .int p1, .int p2] [] B Z (io_c_X8_workToNumber l D ca ad A N K hK _ r2 p1 p2 _ hw) io_k_8_192 (io_hR (by omega) (by decide)) rfl (by decide) (io_e_107 _) rfl hl.1 (Nat.le_of_ble_eq_true rfl) dX8_workNumberFirst_11 ⟨Nat.le_refl _, Nat.le_refl _⟩) (fun r4 s5 H locs hw Z => ?_)
  obtain ⟨b6, hw⟩ := hw
  refine lv_if_ne (tgt := 19) B.1 B.2.1 dX8_workNumberFirst_14 (by decide) (fun k7 => ?_) (fun k7 => ?_)
  · have hw := hw.2 k7
    refine lv_aload_n B.1 B.2.1 dX8_workNumberFirst_19 rfl (lv_at hl 0 rfl) ?_
    refine io_g_8_0 B Z dX8_workNumberFirst_20 ?_
    refine lv_iload_n B.1 B.2.1 dX8_workNumberFirst_23 rfl (lv_at hl 1 rfl) ?_
    refine io_call_i Z (io_runV (ci := 7) (k := 96) [.int p1] [] B Z (io_c_X7_code l D ca ad A _ p1 _ hw) io_k_8_79 (io_hR (by omega) (by decide)) rfl (by decide) (io_e_96 _) rfl hl.1 (Nat.le_of_ble_eq_true rfl) dX8_workNumberFirst_24 ⟨Nat.le_refl _, Nat.le_refl _⟩) (fun r8 s9 H locs hw Z => ?_)
    rcases Classical.em (r8 = 17) with k10 | k10
    · have hw := hw.1 k10
      refine lv_tableIn (tgt := 76) (off := 49) B.1 B.2.1 dX8_workNumberFirst_27 (by rw [k10]; decide) (by rw [k10]; decide) (by rw [k10]; decide) (by decide) ?_
      refine lv_aload_n B.1 B.2.1 dX8_workNumberFirst_76 rfl (lv_at hl 0 rfl) ?_
      refine lv_iload_n B.1 B.2.1 dX8_workNumberFirst_77 rfl (lv_at hl 1 rfl) ?_
      refine lv_iconst (v := 0) B.1 B.2.1 dX8_workNumberFirst_78 (by decide) ?_
      refine lv_aload_n B.1 B.2.1 dX8_workNumberFirst_79 rfl (lv_at hl 0 rfl) ?_
      refine io_g_8_1 B Z dX8_workNumberFirst_80 ?_
      refine lv_aload_n B.1 B.2.1 dX8_workNumberFirst_83 rfl (lv_at hl 0 rfl) ?_
      refine io_g_8_8 B Z dX8_workNumberFirst_84 ?_
      refine io_call_i Z (io_runV (ci := 0) (k := 93) [.int (s9 107 8)] [.int 0, .int p1, .ref (ad 107)] B Z (io_c_X0_print l D ca ad A _ (s9 107 8) _ hw) io_k_8_235 (io_hR (by omega) (by decide)) rfl (by decide) (io_e_93 _) rfl hl.1 (Nat.le_of_ble_eq_true rfl) dX8_workNumberFirst_87 ⟨Nat.le_refl _, Nat.le_refl _⟩) (fun r11 s12 H locs hw Z => ?_)
      refine io_call_i Z (io_runV (ci := 8) (k := 107) [.int p1, .int 0, .int r11] [] B Z (io_c_X8_act l D ca ad A _ p1 0 r11 _ hw) io_k_8_170 (io_hR (by omega) (by decide)) rfl (by decide) (io_e_107 _) rfl hl.1 (Nat.le_of_ble_eq_true rfl) dX8_workNumberFirst_90 ⟨Nat.le_refl _, Nat.le_refl _⟩) (fun r13 s14 H locs hw Z => ?_)
      obtain ⟨b15, hw⟩ := hw
      exact io_ret_z B Z hr hlk b15 hw dX8_workNumberFirst_93
    have hw := hw.2 k10
    rcases Classical.em (r8 = 20) with k16 | k16
    · have hw := hw.1 k16
      refine lv_tableIn (tgt := 101) (off := 74) B.1 B.2.1 dX8_workNumberFirst_27 (by rw [k16]; decide) (by rw [k16]; decide) (by rw [k16]; decide) (by decide) ?_
      refine lv_aload_n B.1 B.2.1 dX8_workNumberFirst_101 rfl (lv_at hl 0 rfl) ?_
      refine lv_aload_n B.1 B.2.1 dX8_workNumberFirst_102 rfl (lv_at hl 0 rfl) ?_
      refine io_g_8_8 B Z dX8_workNumberFirst_103 ?_
      refine lv_if_eq (tgt := 120) B.1 B.2.1 dX8_workNumberFirst_106 (by decide) (fun k17 => ?_) (fun k17 => ?_)
      · have hw := hw.1 k17
        refine lv_aload_n B.1 B.2.1 dX8_workNumberFirst_120 rfl (lv_at hl 0 rfl) ?_
        refine io_g_8_0 B Z dX8_workNumberFirst_121 ?_
        refine lv_iload_n B.1 B.2.1 dX8_workNumberFirst_124 rfl (lv_at hl 1 rfl) ?_
        refine io_call_i Z (io_runV (ci := 7) (k := 96) [.int p1] [.ref (ad 107)] B Z (io_c_X7_third l D ca ad A _ p1 _ hw) io_k_8_238 (io_hR (by omega) (by decide)) rfl (by decide) (io_e_96 _) rfl hl.1 (Nat.le_of_ble_eq_true rfl) dX8_workNumberFirst_125 ⟨Nat.le_refl _, Nat.le_refl _⟩) (fun r18 s19 H locs hw Z => ?_)
        refine lv_iload_n B.1 B.2.1 dX8_workNumberFirst_128 rfl (lv_at hl 2 rfl) ?_
        refine lv_iconst (v := 1) B.1 B.2.1 dX8_workNumberFirst_129 (by decide) ?_
        refine lv_iadd B.1 B.2.1 dX8_workNumberFirst_130 ?_
        refine io_call_i Z (io_runV (ci := 8) (k := 107) [.int r18, .int (p2 + 1)] [] B Z (hK _ r18 (p2 + 1) _ hw) io_k_8_68 (io_hR (by omega) (by decide)) rfl (by decide) (io_e_107 _) rfl hl.1 (Nat.le_of_ble_eq_true rfl) dX8_workNumberFirst_131 ⟨Nat.le_refl _, Nat.le_refl _⟩) (fun r20 s21 H locs hw Z => ?_)
        obtain ⟨b22, hw⟩ := hw
        exact io_ret_z B Z hr hlk b22 hw dX8_workNumberFirst_134
      · have hw := hw.2 k17
        refine lv_aload_n B.1 B.2.1 dX8_workNumberFirst_109 rfl (lv_at hl 0 rfl) ?_
        refine io_g_8_0 B Z dX8_workNumberFirst_110 ?_
        refine lv_iload_n B.1 B.2.1 dX8_workNumberFirst_113 rfl (lv_at hl 1 rfl) ?_
        refine io_call_i Z (io_runV (ci := 7) (k := 96) [.int p1] [.ref (ad 107)] B Z (io_c_X7_second l D ca ad A _ p1 _ hw) io_k_8_110 (io_hR (by omega) (by decide)) rfl (by decide) (io_e_96 _) rfl hl.1 (Nat.le_of_ble_eq_true rfl) dX8_workNumberFirst_114 ⟨Nat.le_refl _, Nat.le_refl _⟩) (fun r23 s24 H locs hw Z => ?_)
        refine lv_goto (tgt := 128) B.1 B.2.1 dX8_workNumberFirst_117 (by decide) ?_
        refine lv_iload_n B.1 B.2.1 dX8_workNumberFirst_128 rfl (lv_at hl 2 rfl) ?_
        refine lv_iconst (v := 1) B.1 B.2.1 dX8_workNumberFirst_129 (by decide) ?_
        refine lv_iadd B.1 B.2.1 dX8_workNumberFirst_130 ?_
        refine io_call_i Z (io_runV (ci := 8) (k := 107) [.int r23, .int (p2 + 1)] [] B Z (hK _ r23 (p2 + 1) _ hw) io_k_8_68 (io_hR (by omega) (by decide)) rfl (by decide) (io_e_107 _) rfl hl.1 (Nat.le_of_ble_eq_true rfl) dX8_workNumberFirst_131 ⟨Nat.le_refl _, Nat.le_refl _⟩) (fun r25 s26 H locs hw Z => ?_)
        obtain ⟨b27, hw⟩ := hw
        exact io_ret_z B Z hr hlk b27 hw dX8_workNumberFirst_134
    have hw := hw.2 k16
    rcases Classical.em (r8 = 25) with k28 | k28
    · have hw := hw.1 k28
      refine lv_tableIn (tgt := 94) (off := 67) B.1 B.2.1 dX8_workNumberFirst_27 (by rw [k28]; decide) (by rw [k28]; decide) (by rw [k28]; decide) (by decide) ?_
      refine lv_aload_n B.1 B.2.1 dX8_workNumberFirst_94 rfl (lv_at hl 0 rfl) ?_
      refine lv_iconst (v := 4) B.1 B.2.1 dX8_workNumberFirst_95 (by decide) ?_
      refine io_p_8_7 B Z dX8_workNumberFirst_96 (fun s29 H locs e30 Z => ?_)
      have hw := hw s29 e30
      refine lv_iconst (v := 0) B.1 B.2.1 dX8_workNumberFirst_99 (by decide) ?_
      exact io_ret_z B Z hr hlk (Or.inl rfl) hw dX8_workNumberFirst_100
    have hw := hw.2 k28
    refine io_tswE (tgt := 135) (fun z => (([17, 20, 25] : List Int32).contains z) = true) B dX8_workNumberFirst_27 (by decide) (by decide) (by decide) (by decide +kernel) (io_nc (List.forall_mem_cons.mpr ⟨fun q => k10 (q), (List.forall_mem_cons.mpr ⟨fun q => k16 (q), (List.forall_mem_cons.mpr ⟨fun q => k28 (q), (fun _ h => absurd h List.not_mem_nil)⟩)⟩)⟩)) ?_
    refine lv_aload_n B.1 B.2.1 dX8_workNumberFirst_135 rfl (lv_at hl 0 rfl) ?_
    refine lv_aload_n B.1 B.2.1 dX8_workNumberFirst_136 rfl (lv_at hl 0 rfl) ?_
    refine io_g_8_0 B Z dX8_workNumberFirst_137 ?_
    refine lv_iload_n B.1 B.2.1 dX8_workNumberFirst_140 rfl (lv_at hl 1 rfl) ?_
    refine io_call_i Z (io_runV (ci := 7) (k := 96) [.int p1] [.ref (ad 107)] B Z (io_c_X7_second l D ca ad A _ p1 _ hw) io_k_8_110 (io_hR (by omega) (by decide)) rfl (by decide) (io_e_96 _) rfl hl.1 (Nat.le_of_ble_eq_true rfl) dX8_workNumberFirst_141 ⟨Nat.le_refl _, Nat.le_refl _⟩) (fun r31 s32 H locs hw Z => ?_)
    refine lv_aload_n B.1 B.2.1 dX8_workNumberFirst_144 rfl (lv_at hl 0 rfl) ?_
    refine io_g_8_8 B Z dX8_workNumberFirst_145 ?_
    refine lv_iload_n B.1 B.2.1 dX8_workNumberFirst_148 rfl (lv_at hl 2 rfl) ?_
    refine io_call_i Z (io_runV (ci := 8) (k := 107) [.int r31, .int (s32 107 8), .int p2] [] B Z (io_c_X8_workTimes l D ca ad A N K hK _ r31 (s32 107 8) p2 _ hw) io_k_8_241 (io_hR (by omega) (by decide)) rfl (by decide) (io_e_107 _) rfl hl.1 (Nat.le_of_ble_eq_true rfl) dX8_workNumberFirst_149 ⟨Nat.le_refl _, Nat.le_refl _⟩) (fun r33 s34 H locs hw Z => ?_)
    obtain ⟨b35, hw⟩ := hw
    exact io_ret_z B Z hr hlk b35 hw dX8_workNumberFirst_152
  · have hw := hw.1 k7
    refine lv_iconst (v := 0) B.1 B.2.1 dX8_workNumberFirst_17 (by decide) ?_
    exact io_ret_z B Z hr hlk (Or.inl rfl) hw dX8_workNumberFirst_18
def wp_X8_workSet (K : io_M → Int32 → Int32 → (Int32 → io_M → Prop) → Prop) (σ : io_M) (p1 : Int32) (p2 : Int32) (post : Int32 → io_M → Prop) : Prop := (wp_X7_second σ p1 (fun r2 s3 => (K s3 r2 (p2 + 1) (fun r4 s5 => ((r4 = 0 → post 0 s5) ∧ (¬ (r4 = 0) → (wp_X7_first s5 p1 (fun r8 s9 => (wp_X8_assign s9 r8 (s9 107 7) (s9 107 8) (fun s11 => post 1 s11))))))))))
set_option maxHeartbeats 4000000 in
set_option maxRecDepth 100000 in
theorem io_c_X8_workSet (l : Launch) (D : va_G) (ca : Nat → ClassId) (ad : Nat → Nat) (A : Nat → Prop) (N : Nat) (K : io_M → Int32 → Int32 → (Int32 → io_M → Prop) → Prop) (hK : ∀ (σ : io_M) (p1 p2 : Int32) (post : Int32 → io_M → Prop), K σ p1 p2 post → Met l yX8_work (.code yX8_work cX8_work 3 (some .boolean) :: io_tb) (io_rm (N + 10)) (va_Pc [.ref (ad 107), .int p1, .int p2] (io_W D ca ad A σ)) (va_Qi (fun r u => io_bl r ∧ post r u) (io_W D ca ad A) A) 0 0 A) (σ : io_M) (p1 : Int32) (p2 : Int32) (post : Int32 → io_M → Prop) (hw : wp_X8_workSet K σ p1 p2 post) : Met l yX8_workSet (.code yX8_workSet cX8_workSet 3 (some .boolean) :: io_tb) (io_rm (N + 11)) (va_Pc [.ref (ad 107), .int p1, .int p2] (io_W D ca ad A σ)) (va_Qi (fun r u => io_bl r ∧ post r u) (io_W D ca ad A) A) 0 0 A := by
  refine Met.ofW (cc := cX8_workSet) (maxL := 3) (ret := (some .boolean)) (by decide) rfl ?_
  intro p e s m args below meth c s₁ Bd hml hv
  obtain ⟨rfl, hW0⟩ := hv
  have Z := io_Z.start hW0
  have B : CallFix p m c cX8_workSet 3 s _ io_tb RX8 := ⟨Bd.exec, Bd.bytes, hml, findClass_of_methodNamed Bd.named, fun w hw => atoms_spec (ws := (.code yX8_workSet cX8_workSet 3 (some .boolean) :: io_tb)) Bd.pre w (List.mem_cons_of_mem _ hw)⟩
  have hr := Bd.returns
  have hlk := Bd.notSynchronized
  have hl := lv_entry ([.ref (ad 107), .int p1, .int p2]) (n := 3) (Nat.le_of_ble_eq_true rfl)
  rw [lg_entry_eq]
  generalize (lg_sl ([.ref (ad 107), .int p1, .int p2]) ++ List.replicate (3 - (lg_sl ([.ref (ad 107), .int p1, .int p2])).length) Slot.unset).toArray = ls at hl ⊢
  have hl : lv_has ls 3 [(0, .ref (ad 107)), (1, .int p1), (2, .int p2)] := hl
  show W p l e (io_rm (N + 11)) s m _ below meth c s.heap [] 0 0 _ (F0 m 0 ls [])
  unfold wp_X8_workSet at hw
  refine lv_aload_n B.1 B.2.1 dX8_workSet_0 rfl (lv_at hl 0 rfl) ?_
  refine lv_aload_n B.1 B.2.1 dX8_workSet_1 rfl (lv_at hl 0 rfl) ?_
  refine io_g_8_0 B Z dX8_workSet_2 ?_
  refine lv_iload_n B.1 B.2.1 dX8_workSet_5 rfl (lv_at hl 1 rfl) ?_
  refine io_call_i Z (io_runV (ci := 7) (k := 96) [.int p1] [.ref (ad 107)] B Z (io_c_X7_second l D ca ad A _ p1 _ hw) io_k_8_110 (io_hR (by omega) (by decide)) rfl (by decide) (io_e_96 _) rfl hl.1 (Nat.le_of_ble_eq_true rfl) dX8_workSet_6 ⟨Nat.le_refl _, Nat.le_refl _⟩) (fun r2 s3 H locs hw Z => ?_)
  refine lv_iload_n B.1 B.2.1 dX8_workSet_9 rfl (lv_at hl 2 rfl) ?_
  refine lv_iconst (v := 1) B.1 B.2.1 dX8_workSet_10 (by decide) ?_
  refine lv_iadd B.1 B.2.1 dX8_workSet_11 ?_
  refine io_call_i Z (io_runV (ci := 8) (k := 107) [.int r2, .int (p2 + 1)] [] B Z (hK _ r2 (p2 + 1) _ hw) io_k_8_68 (io_hR (by omega) (by decide)) rfl (by decide) (io_e_107 _) rfl hl.1 (Nat.le_of_ble_eq_true rfl) dX8_workSet_12 ⟨Nat.le_refl _, Nat.le_refl _⟩) (fun r4 s5 H locs hw Z => ?_)
  obtain ⟨b6, hw⟩ := hw
  refine lv_if_ne (tgt := 20) B.1 B.2.1 dX8_workSet_15 (by decide) (fun k7 => ?_) (fun k7 => ?_)
  · have hw := hw.2 k7
    refine lv_aload_n B.1 B.2.1 dX8_workSet_20 rfl (lv_at hl 0 rfl) ?_
    refine lv_aload_n B.1 B.2.1 dX8_workSet_21 rfl (lv_at hl 0 rfl) ?_
    refine io_g_8_0 B Z dX8_workSet_22 ?_
    refine lv_iload_n B.1 B.2.1 dX8_workSet_25 rfl (lv_at hl 1 rfl) ?_
    refine io_call_i Z (io_runV (ci := 7) (k := 96) [.int p1] [.ref (ad 107)] B Z (io_c_X7_first l D ca ad A _ p1 _ hw) io_k_8_85 (io_hR (by omega) (by decide)) rfl (by decide) (io_e_96 _) rfl hl.1 (Nat.le_of_ble_eq_true rfl) dX8_workSet_26 ⟨Nat.le_refl _, Nat.le_refl _⟩) (fun r8 s9 H locs hw Z => ?_)
    refine lv_aload_n B.1 B.2.1 dX8_workSet_29 rfl (lv_at hl 0 rfl) ?_
    refine io_g_8_7 B Z dX8_workSet_30 ?_
    refine lv_aload_n B.1 B.2.1 dX8_workSet_33 rfl (lv_at hl 0 rfl) ?_
    refine io_g_8_8 B Z dX8_workSet_34 ?_
    refine io_call_v Z (io_runV (ci := 8) (k := 107) [.int r8, .int (s9 107 7), .int (s9 107 8)] [] B Z (io_c_X8_assign l D ca ad A _ r8 (s9 107 7) (s9 107 8) _ hw) io_k_8_149 (io_hR (by omega) (by decide)) rfl (by decide) (io_e_107 _) rfl hl.1 (Nat.le_of_ble_eq_true rfl) dX8_workSet_37 ⟨Nat.le_refl _, Nat.le_refl _⟩) (fun s11 H locs hw Z => ?_)
    refine lv_iconst (v := 1) B.1 B.2.1 dX8_workSet_40 (by decide) ?_
    exact io_ret_z B Z hr hlk (Or.inr rfl) hw dX8_workSet_41
  · have hw := hw.1 k7
    refine lv_iconst (v := 0) B.1 B.2.1 dX8_workSet_18 (by decide) ?_
    exact io_ret_z B Z hr hlk (Or.inl rfl) hw dX8_workSet_19
def wp_X8_workTwoNumbers (K : io_M → Int32 → Int32 → (Int32 → io_M → Prop) → Prop) (σ : io_M) (p1 : Int32) (p2 : Int32) (post : Int32 → io_M → Prop) : Prop := (wp_X7_first σ p1 (fun r2 s3 => (wp_X8_workToNumber K s3 r2 p1 p2 (fun r4 s5 => ((r4 = 0 → post 0 s5) ∧ (¬ (r4 = 0) → (wp_X7_second s5 p1 (fun r8 s9 => (wp_X8_workToNumber K s9 r8 p1 p2 (fun r10 s11 => ((r10 = 0 → post 0 s11) ∧ (¬ (r10 = 0) → (wp_X7_code s11 p1 (fun r14 s15 => ((r14 = 21 → (((s11 107 8) ≤ (s5 107 8) → (wp_X8_give s15 0 0 (fun r21 s22 => post r21 s22))) ∧ (¬ ((s11 107 8) ≤ (s5 107 8)) → (wp_X8_give s15 0 1 (fun r24 s25 => post r24 s25))))) ∧ (¬ (r14 = 21) → (wp_X8_give s15 0 ((s5 107 8) + (s11 107 8)) (fun r17 s18 => post r17 s18))))))))))))))))))
set_option maxHeartbeats 4000000 in
set_option maxRecDepth 100000 in
theorem io_c_X8_workTwoNumbers (l : Launch) (D : va_G) (ca : Nat → ClassId) (ad : Nat → Nat) (A : Nat → Prop) (N : Nat) (K : io_M → Int32 → Int32 → (Int32 → io_M → Prop) → Prop) (hK : ∀ (σ : io_M) (p1 p2 : Int32) (post : Int32 → io_M → Prop), K σ p1 p2 post → Met l yX8_work (.code yX8_work cX8_work 3 (some .boolean) :: io_tb) (io_rm (N + 10)) (va_Pc [.ref (ad 107), .int p1, .int p2] (io_W D ca ad A σ)) (va_Qi (fun r u => io_bl r ∧ post r u) (io_W D ca ad A) A) 0 0 A) (σ : io_M) (p1 : Int32) (p2 : Int32) (post : Int32 → io_M → Prop) (hw : wp_X8_workTwoNumbers K σ p1 p2 post) : Met l yX8_workTwoNumbers (.code yX8_workTwoNumbers cX8_workTwoNumbers 5 (some .boolean) :: io_tb) (io_rm (N + 12)) (va_Pc [.ref (ad 107), .int p1, .int p2] (io_W D ca ad A σ)) (va_Qi (fun r u => io_bl r ∧ post r u) (io_W D ca ad A) A) 0 0 A := by
  refine Met.ofW (cc := cX8_workTwoNumbers) (maxL := 5) (ret := (some .boolean)) (by decide) rfl ?_
  intro p e s m args below meth c s₁ Bd hml hv
  obtain ⟨rfl, hW0⟩ := hv
  have Z := io_Z.start hW0
  have B : CallFix p m c cX8_workTwoNumbers 5 s _ io_tb RX8 := ⟨Bd.exec, Bd.bytes, hml, findClass_of_methodNamed Bd.named, fun w hw => atoms_spec (ws := (.code yX8_workTwoNumbers cX8_workTwoNumbers 5 (some .boolean) :: io_tb)) Bd.pre w (List.mem_cons_of_mem _ hw)⟩
  have hr := Bd.returns
  have hlk := Bd.notSynchronized
  have hl := lv_entry ([.ref (ad 107), .int p1, .int p2]) (n := 5) (Nat.le_of_ble_eq_true rfl)
  rw [lg_entry_eq]
  generalize (lg_sl ([.ref (ad 107), .int p1, .int p2]) ++ List.replicate (5 - (lg_sl ([.ref (ad 107), .int p1, .int p2])).length) Slot.unset).toArray = ls at hl ⊢
  have hl : lv_has ls 5 [(0, .ref (ad 107)), (1, .int p1), (2, .int p2)] := hl
  show W p l e (io_rm (N + 12)) s m _ below meth c s.heap [] 0 0 _ (F0 m 0 ls [])
  unfold wp_X8_workTwoNumbers at hw
  refine lv_aload_n B.1 B.2.1 dX8_workTwoNumbers_0 rfl (lv_at hl 0 rfl) ?_
  refine lv_aload_n B.1 B.2.1 dX8_workTwoNumbers_1 rfl (lv_at hl 0 rfl) ?_
  refine io_g_8_0 B Z dX8_workTwoNumbers_2 ?_
  refine lv_iload_n B.1 B.2.1 dX8_workTwoNumbers_5 rfl (lv_at hl 1 rfl) ?_
  refine io_call_i Z (io_runV (ci := 7) (k := 96) [.int p1] [.ref (ad 107)] B Z (io_c_X7_first l D ca ad A _ p1 _ hw) io_k_8_85 (io_hR (by omega) (by decide)) rfl (by decide) (io_e_96 _) rfl hl.1 (Nat.le_of_ble_eq_true rfl) dX8_workTwoNumbers_6 ⟨Nat.le_refl _, Nat.le_refl _⟩) (fun r2 s3 H locs hw Z => ?_)
  refine lv_iload_n B.1 B.2.1 dX8_workTwoNumbers_9 rfl (lv_at hl 1 rfl) ?_
  refine lv_iload_n B.1 B.2.1 dX8_workTwoNumbers_10 rfl (lv_at hl 2 rfl) ?_
  refine io_call_i Z (io_runV (ci := 8) (k := 107) [.int r2, .int p1, .int p2] [] B Z (io_c_X8_workToNumber l D ca ad A N K hK _ r2 p1 p2 _ hw) io_k_8_192 (io_hR (by omega) (by decide)) rfl (by decide) (io_e_107 _) rfl hl.1 (Nat.le_of_ble_eq_true rfl) dX8_workTwoNumbers_11 ⟨Nat.le_refl _, Nat.le_refl _⟩) (fun r4 s5 H locs hw Z => ?_)
  obtain ⟨b6, hw⟩ := hw
  refine lv_if_ne (tgt := 19) B.1 B.2.1 dX8_workTwoNumbers_14 (by decide) (fun k7 => ?_) (fun k7 => ?_)
  · have hw := hw.2 k7
    refine lv_aload_n B.1 B.2.1 dX8_workTwoNumbers_19 rfl (lv_at hl 0 rfl) ?_
    refine io_g_8_8 B Z dX8_workTwoNumbers_20 ?_
    refine lv_istore_n (lv' := [(3, .int (s5 107 8)), (0, .ref (ad 107)), (1, .int p1), (2, .int p2)]) B.1 B.2.1 dX8_workTwoNumbers_23 rfl hl (by decide) rfl (fun ls hl => ?_)
    refine lv_aload_n B.1 B.2.1 dX8_workTwoNumbers_24 rfl (lv_at hl 1 rfl) ?_
    refine lv_aload_n B.1 B.2.1 dX8_workTwoNumbers_25 rfl (lv_at hl 1 rfl) ?_
    refine io_g_8_0 B Z dX8_workTwoNumbers_26 ?_
    refine lv_iload_n B.1 B.2.1 dX8_workTwoNumbers_29 rfl (lv_at hl 2 rfl) ?_
    refine io_call_i Z (io_runV (ci := 7) (k := 96) [.int p1] [.ref (ad 107)] B Z (io_c_X7_second l D ca ad A _ p1 _ hw) io_k_8_110 (io_hR (by omega) (by decide)) rfl (by decide) (io_e_96 _) rfl hl.1 (Nat.le_of_ble_eq_true rfl) dX8_workTwoNumbers_30 ⟨Nat.le_refl _, Nat.le_refl _⟩) (fun r8 s9 H locs hw Z => ?_)
    refine lv_iload_n B.1 B.2.1 dX8_workTwoNumbers_33 rfl (lv_at hl 2 rfl) ?_
    refine lv_iload_n B.1 B.2.1 dX8_workTwoNumbers_34 rfl (lv_at hl 3 rfl) ?_
    refine io_call_i Z (io_runV (ci := 8) (k := 107) [.int r8, .int p1, .int p2] [] B Z (io_c_X8_workToNumber l D ca ad A N K hK _ r8 p1 p2 _ hw) io_k_8_192 (io_hR (by omega) (by decide)) rfl (by decide) (io_e_107 _) rfl hl.1 (Nat.le_of_ble_eq_true rfl) dX8_workTwoNumbers_35 ⟨Nat.le_refl _, Nat.le_refl _⟩) (fun r10 s11 H locs hw Z => ?_)
    obtain ⟨b12, hw⟩ := hw
    refine lv_if_ne (tgt := 43) B.1 B.2.1 dX8_workTwoNumbers_38 (by decide) (fun k13 => ?_) (fun k13 => ?_)
    · have hw := hw.2 k13
      refine lv_aload_n B.1 B.2.1 dX8_workTwoNumbers_43 rfl (lv_at hl 1 rfl) ?_
      refine io_g_8_8 B Z dX8_workTwoNumbers_44 ?_
      refine lv_istore (lv' := [(4, .int (s11 107 8)), (3, .int (s5 107 8)), (0, .ref (ad 107)), (1, .int p1), (2, .int p2)]) B.1 B.2.1 dX8_workTwoNumbers_47 hl (by decide) rfl (fun ls hl => ?_)
      refine lv_aload_n B.1 B.2.1 dX8_workTwoNumbers_49 rfl (lv_at hl 2 rfl) ?_
      refine io_g_8_0 B Z dX8_workTwoNumbers_50 ?_
      refine lv_iload_n B.1 B.2.1 dX8_workTwoNumbers_53 rfl (lv_at hl 3 rfl) ?_
      refine io_call_i Z (io_runV (ci := 7) (k := 96) [.int p1] [] B Z (io_c_X7_code l D ca ad A _ p1 _ hw) io_k_8_79 (io_hR (by omega) (by decide)) rfl (by decide) (io_e_96 _) rfl hl.1 (Nat.le_of_ble_eq_true rfl) dX8_workTwoNumbers_54 ⟨Nat.le_refl _, Nat.le_refl _⟩) (fun r14 s15 H locs hw Z => ?_)
      refine lv_bipush (v := 21) B.1 B.2.1 dX8_workTwoNumbers_57 (by decide) ?_
      refine lv_icmp_ne (tgt := 79) B.1 B.2.1 dX8_workTwoNumbers_59 (by decide) (fun k16 => ?_) (fun k16 => ?_)
      · have hw := hw.2 k16
        refine lv_aload_n B.1 B.2.1 dX8_workTwoNumbers_79 rfl (lv_at hl 2 rfl) ?_
        refine lv_iconst (v := 0) B.1 B.2.1 dX8_workTwoNumbers_80 (by decide) ?_
        refine lv_iload_n B.1 B.2.1 dX8_workTwoNumbers_81 rfl (lv_at hl 1 rfl) ?_
        refine lv_iload B.1 B.2.1 dX8_workTwoNumbers_82 (lv_at hl 0 rfl) ?_
        refine lv_iadd B.1 B.2.1 dX8_workTwoNumbers_84 ?_
        refine io_call_i Z (io_runV (ci := 8) (k := 107) [.int 0, .int ((s5 107 8) + (s11 107 8))] [] B Z (io_c_X8_give l D ca ad A _ 0 ((s5 107 8) + (s11 107 8)) _ hw) io_k_8_88 (io_hR (by omega) (by decide)) rfl (by decide) (io_e_107 _) rfl hl.1 (Nat.le_of_ble_eq_true rfl) dX8_workTwoNumbers_85 ⟨Nat.le_refl _, Nat.le_refl _⟩) (fun r17 s18 H locs hw Z => ?_)
        obtain ⟨b19, hw⟩ := hw
        exact io_ret_z B Z hr hlk b19 hw dX8_workTwoNumbers_88
      · have hw := hw.1 k16
        refine lv_aload_n B.1 B.2.1 dX8_workTwoNumbers_62 rfl (lv_at hl 2 rfl) ?_
        refine lv_iconst (v := 0) B.1 B.2.1 dX8_workTwoNumbers_63 (by decide) ?_
        refine lv_iload_n B.1 B.2.1 dX8_workTwoNumbers_64 rfl (lv_at hl 1 rfl) ?_
        refine lv_iload B.1 B.2.1 dX8_workTwoNumbers_65 (lv_at hl 0 rfl) ?_
        refine lv_icmp_ge (tgt := 74) B.1 B.2.1 dX8_workTwoNumbers_67 (by decide) (fun k20 => ?_) (fun k20 => ?_)
        · have hw := hw.1 k20
          refine lv_iconst (v := 0) B.1 B.2.1 dX8_workTwoNumbers_74 (by decide) ?_
          refine io_call_i Z (io_runV (ci := 8) (k := 107) [.int 0, .int 0] [] B Z (io_c_X8_give l D ca ad A _ 0 0 _ hw) io_k_8_88 (io_hR (by omega) (by decide)) rfl (by decide) (io_e_107 _) rfl hl.1 (Nat.le_of_ble_eq_true rfl) dX8_workTwoNumbers_75 ⟨Nat.le_refl _, Nat.le_refl _⟩) (fun r21 s22 H locs hw Z => ?_)
          obtain ⟨b23, hw⟩ := hw
          exact io_ret_z B Z hr hlk b23 hw dX8_workTwoNumbers_78
        · have hw := hw.2 k20
          refine lv_iconst (v := 1) B.1 B.2.1 dX8_workTwoNumbers_70 (by decide) ?_
          refine lv_goto (tgt := 75) B.1 B.2.1 dX8_workTwoNumbers_71 (by decide) ?_
          refine io_call_i Z (io_runV (ci := 8) (k := 107) [.int 0, .int 1] [] B Z (io_c_X8_give l D ca ad A _ 0 1 _ hw) io_k_8_88 (io_hR (by omega) (by decide)) rfl (by decide) (io_e_107 _) rfl hl.1 (Nat.le_of_ble_eq_true rfl) dX8_workTwoNumbers_75 ⟨Nat.le_refl _, Nat.le_refl _⟩) (fun r24 s25 H locs hw Z => ?_)
          obtain ⟨b26, hw⟩ := hw
          exact io_ret_z B Z hr hlk b26 hw dX8_workTwoNumbers_78
    · have hw := hw.1 k13
      refine lv_iconst (v := 0) B.1 B.2.1 dX8_workTwoNumbers_41 (by decide) ?_
      exact io_ret_z B Z hr hlk (Or.inl rfl) hw dX8_workTwoNumbers_42
  · have hw := hw.1 k7
    refine lv_iconst (v := 0) B.1 B.2.1 dX8_workTwoNumbers_17 (by decide) ?_
    exact io_ret_z B Z hr hlk (Or.inl rfl) hw dX8_workTwoNumbers_18
def wb_X8_work (K : io_M → Int32 → Int32 → (Int32 → io_M → Prop) → Prop) (σ : io_M) (p1 : Int32) (p2 : Int32) (post : Int32 → io_M → Prop) : Prop := ((600 ≤ (σ 107 10) → (wp_X8_stop σ (fun r3 s4 => post r3 s4))) ∧ (¬ (600 ≤ (σ 107 10)) → ((p2 ≤ 60 → (∀ s7, s7 = io_up σ 107 10 ((σ 107 10) + 1) → (wp_X7_code s7 p1 (fun r9 s10 => ((r9 = 0 → (wp_X7_first s10 p1 (fun r12 s13 => (wp_X8_give s13 0 r12 (fun r14 s15 => post r14 s15))))) ∧ (¬ (r9 = 0) → ((r9 = 1 → (wp_X7_first s10 p1 (fun r18 s19 => (vp_in r18 6 ∧ (wp_X7_first s19 p1 (fun r20 s21 => (vp_in r20 6 ∧ (wp_X8_give s21 (s19 108 (r18).toNatClampNeg) (s21 109 (r20).toNatClampNeg) (fun r22 s23 => post r22 s23))))))))) ∧ (¬ (r9 = 1) → ((r9 = 2 → (wp_X8_workSet K s10 p1 p2 (fun r26 s27 => post r26 s27))) ∧ (¬ (r9 = 2) → ((r9 = 3 ∨ r9 = 15 ∨ r9 = 16 ∨ r9 = 18 → (wp_X8_actAlone s10 p1 (fun r30 s31 => post r30 s31))) ∧ (¬ (r9 = 3 ∨ r9 = 15 ∨ r9 = 16 ∨ r9 = 18) → ((r9 = 5 ∨ r9 = 10 → (wp_X8_workHandleAndNumber K s10 p1 p2 (fun r34 s35 => post r34 s35))) ∧ (¬ (r9 = 5 ∨ r9 = 10) → ((r9 = 8 → (wp_X8_workItem K s10 p1 p2 (fun r38 s39 => post r38 s39))) ∧ (¬ (r9 = 8) → ((r9 = 9 → (wp_X8_workLength K s10 p1 p2 (fun r42 s43 => post r42 s43))) ∧ (¬ (r9 = 9) → ((r9 = 17 ∨ r9 = 20 ∨ r9 = 23 ∨ r9 = 25 → (wp_X8_workNumberFirst K s10 p1 p2 (fun r46 s47 => post r46 s47))) ∧ (¬ (r9 = 17 ∨ r9 = 20 ∨ r9 = 23 ∨ r9 = 25) → ((r9 = 19 → (wp_X7_first s10 p1 (fun r50 s51 => (K s51 r50 (p2 + 1) (fun r52 s53 => ((r52 = 0 → post 0 s53) ∧ (¬ (r52 = 0) → (wp_X7_second s53 p1 (fun r56 s57 => (K s57 r56 (p2 + 1) (fun r58 s59 => ((r58 = 0 → post 0 s59) ∧ (¬ (r58 = 0) → post 1 s59))))))))))))) ∧ (¬ (r9 = 19) → ((r9 = 21 ∨ r9 = 22 → (wp_X8_workTwoNumbers K s10 p1 p2 (fun r63 s64 => post r63 s64))) ∧ (¬ (r9 = 21 ∨ r9 = 22) → ((r9 = 24 → (wp_X7_first s10 p1 (fun r67 s68 => (wp_X8_fail s68 r67 p1 (fun r69 s70 => post r69 s70))))) ∧ (¬ (r9 = 24) → ((r9 = 26 → (wp_X8_workCatch K s10 p1 p2 (fun r73 s74 => post r73 s74))) ∧ (¬ (r9 = 26) → ((r9 = 27 → (wp_X7_first s10 p1 (fun r77 s78 => (K s78 r77 (p2 + 1) (fun r79 s80 => (wp_X7_second s80 p1 (fun r82 s83 => (wp_X8_workEnd K s83 r82 p2 (fun r84 s85 => post r84 s85))))))))) ∧ (¬ (r9 = 27) → ((r9 = 28 → (wp_X8_workBracket K s10 p1 p2 (fun r88 s89 => post r88 s89))) ∧ (¬ (r9 = 28) → (wp_X8_workHandle K s10 p1 p2 (fun r91 s92 => post r91 s92)))))))))))))))))))))))))))))))))) ∧ (¬ (p2 ≤ 60) → (wp_X8_stop σ (fun r94 s95 => post r94 s95))))))
def wp_X8_work : Nat → io_M → Int32 → Int32 → (Int32 → io_M → Prop) → Prop
  | 0 => fun _ _ _ _ => False
  | d + 1 => fun σ p1 p2 post => wb_X8_work (wp_X8_work d) σ p1 p2 post
set_option maxHeartbeats 4000000 in
set_option maxRecDepth 100000 in
theorem io_c_X8_workb (l : Launch) (D : va_G) (ca : Nat → ClassId) (ad : Nat → Nat) (A : Nat → Prop) (N : Nat) (K : io_M → Int32 → Int32 → (Int32 → io_M → Prop) → Prop) (hK : ∀ (σ : io_M) (p1 p2 : Int32) (post : Int32 → io_M → Prop), K σ p1 p2 post → Met l yX8_work (.code yX8_work cX8_work 3 (some .boolean) :: io_tb) (io_rm (N + 10)) (va_Pc [.ref (ad 107), .int p1, .int p2] (io_W D ca ad A σ)) (va_Qi (fun r u => io_bl r ∧ post r u) (io_W D ca ad A) A) 0 0 A) (σ : io_M) (p1 : Int32) (p2 : Int32) (post : Int32 → io_M → Prop) (hw : wb_X8_work K σ p1 p2 post) : Met l yX8_work (.code yX8_work cX8_work 3 (some .boolean) :: io_tb) (io_rm (N + 20)) (va_Pc [.ref (ad 107), .int p1, .int p2] (io_W D ca ad A σ)) (va_Qi (fun r u => io_bl r ∧ post r u) (io_W D ca ad A) A) 0 0 A := by
  refine Met.ofW (cc := cX8_work) (maxL := 3) (ret := (some .boolean)) (by decide) rfl ?_
  intro p e s m args below meth c s₁ Bd hml hv
  obtain ⟨rfl, hW0⟩ := hv
  have Z := io_Z.start hW0
  have B : CallFix p m c cX8_work 3 s _ io_tb RX8 := ⟨Bd.exec, Bd.bytes, hml, findClass_of_methodNamed Bd.named, fun w hw => atoms_spec (ws := (.code yX8_work cX8_work 3 (some .boolean) :: io_tb)) Bd.pre w (List.mem_cons_of_mem _ hw)⟩
  have hr := Bd.returns
  have hlk := Bd.notSynchronized
  have hl := lv_entry ([.ref (ad 107), .int p1, .int p2]) (n := 3) (Nat.le_of_ble_eq_true rfl)
  rw [lg_entry_eq]
  generalize (lg_sl ([.ref (ad 107), .int p1, .int p2]) ++ List.replicate (3 - (lg_sl ([.ref (ad 107), .int p1, .int p2])).length) Slot.unset).toArray = ls at hl ⊢
  have hl : lv_has ls 3 [(0, .ref (ad 107)), (1, .int p1), (2, .int p2)] := hl
  show W p l e (io_rm (N + 20)) s m _ below meth c s.heap [] 0 0 _ (F0 m 0 ls [])
  unfold wb_X8_work at hw
  refine lv_aload_n B.1 B.2.1 dX8_work_0 rfl (lv_at hl 0 rfl) ?_
  refine io_g_8_10 B Z dX8_work_1 ?_
  refine lv_sipush (v := 600) B.1 B.2.1 dX8_work_4 (by decide) ?_
  refine lv_icmp_ge (tgt := 16) B.1 B.2.1 dX8_work_7 (by decide) (fun k2 => ?_) (fun k2 => ?_)
  · have hw := hw.1 k2
    refine lv_aload_n B.1 B.2.1 dX8_work_16 rfl (lv_at hl 0 rfl) ?_
    refine io_call_i Z (io_runV (ci := 8) (k := 107) [] [] B Z (io_c_X8_stop l D ca ad A _ _ hw) io_k_8_75 (io_hR (by omega) (by decide)) rfl (by decide) (io_e_107 _) rfl hl.1 (Nat.le_of_ble_eq_true rfl) dX8_work_17 ⟨Nat.le_refl _, Nat.le_refl _⟩) (fun r3 s4 H locs hw Z => ?_)
    obtain ⟨b5, hw⟩ := hw
    exact io_ret_z B Z hr hlk b5 hw dX8_work_20
  · have hw := hw.2 k2
    refine lv_iload_n B.1 B.2.1 dX8_work_10 rfl (lv_at hl 2 rfl) ?_
    refine lv_bipush (v := 60) B.1 B.2.1 dX8_work_11 (by decide) ?_
    refine lv_icmp_le (tgt := 21) B.1 B.2.1 dX8_work_13 (by decide) (fun k6 => ?_) (fun k6 => ?_)
    · have hw := hw.1 k6
      refine lv_aload_n B.1 B.2.1 dX8_work_21 rfl (lv_at hl 0 rfl) ?_
      refine lv_dup B.1 B.2.1 dX8_work_22 rfl ?_
      refine io_g_8_10 B Z dX8_work_23 ?_
      refine lv_iconst (v := 1) B.1 B.2.1 dX8_work_26 (by decide) ?_
      refine lv_iadd B.1 B.2.1 dX8_work_27 ?_
      refine io_p_8_10 B Z dX8_work_28 (fun s7 H locs e8 Z => ?_)
      have hw := hw s7 e8
      refine lv_aload_n B.1 B.2.1 dX8_work_31 rfl (lv_at hl 0 rfl) ?_
      refine io_g_8_0 B Z dX8_work_32 ?_
      refine lv_iload_n B.1 B.2.1 dX8_work_35 rfl (lv_at hl 1 rfl) ?_
      refine io_call_i Z (io_runV (ci := 7) (k := 96) [.int p1] [] B Z (io_c_X7_code l D ca ad A _ p1 _ hw) io_k_8_79 (io_hR (by omega) (by decide)) rfl (by decide) (io_e_96 _) rfl hl.1 (Nat.le_of_ble_eq_true rfl) dX8_work_36 ⟨Nat.le_refl _, Nat.le_refl _⟩) (fun r9 s10 H locs hw Z => ?_)
      rcases Classical.em (r9 = 0) with k11 | k11
      · have hw := hw.1 k11
        refine lv_tableIn (tgt := 168) (off := 129) B.1 B.2.1 dX8_work_39 (by rw [k11]; decide) (by rw [k11]; decide) (by rw [k11]; decide) (by decide) ?_
        refine lv_aload_n B.1 B.2.1 dX8_work_168 rfl (lv_at hl 0 rfl) ?_
        refine lv_iconst (v := 0) B.1 B.2.1 dX8_work_169 (by decide) ?_
        refine lv_aload_n B.1 B.2.1 dX8_work_170 rfl (lv_at hl 0 rfl) ?_
        refine io_g_8_0 B Z dX8_work_171 ?_
        refine lv_iload_n B.1 B.2.1 dX8_work_174 rfl (lv_at hl 1 rfl) ?_
        refine io_call_i Z (io_runV (ci := 7) (k := 96) [.int p1] [.int 0, .ref (ad 107)] B Z (io_c_X7_first l D ca ad A _ p1 _ hw) io_k_8_85 (io_hR (by omega) (by decide)) rfl (by decide) (io_e_96 _) rfl hl.1 (Nat.le_of_ble_eq_true rfl) dX8_work_175 ⟨Nat.le_refl _, Nat.le_refl _⟩) (fun r12 s13 H locs hw Z => ?_)
        refine io_call_i Z (io_runV (ci := 8) (k := 107) [.int 0, .int r12] [] B Z (io_c_X8_give l D ca ad A _ 0 r12 _ hw) io_k_8_88 (io_hR (by omega) (by decide)) rfl (by decide) (io_e_107 _) rfl hl.1 (Nat.le_of_ble_eq_true rfl) dX8_work_178 ⟨Nat.le_refl _, Nat.le_refl _⟩) (fun r14 s15 H locs hw Z => ?_)
        obtain ⟨b16, hw⟩ := hw
        exact io_ret_z B Z hr hlk b16 hw dX8_work_181
      have hw := hw.2 k11
      rcases Classical.em (r9 = 1) with k17 | k17
      · have hw := hw.1 k17
        refine lv_tableIn (tgt := 182) (off := 143) B.1 B.2.1 dX8_work_39 (by rw [k17]; decide) (by rw [k17]; decide) (by rw [k17]; decide) (by decide) ?_
        refine lv_aload_n B.1 B.2.1 dX8_work_182 rfl (lv_at hl 0 rfl) ?_
        refine lv_aload_n B.1 B.2.1 dX8_work_183 rfl (lv_at hl 0 rfl) ?_
        refine io_g_8_5 B Z dX8_work_184 ?_
        refine lv_aload_n B.1 B.2.1 dX8_work_187 rfl (lv_at hl 0 rfl) ?_
        refine io_g_8_0 B Z dX8_work_188 ?_
        refine lv_iload_n B.1 B.2.1 dX8_work_191 rfl (lv_at hl 1 rfl) ?_
        refine io_call_i Z (io_runV (ci := 7) (k := 96) [.int p1] [.ref (ad 108), .ref (ad 107)] B Z (io_c_X7_first l D ca ad A _ p1 _ hw) io_k_8_85 (io_hR (by omega) (by decide)) rfl (by decide) (io_e_96 _) rfl hl.1 (Nat.le_of_ble_eq_true rfl) dX8_work_192 ⟨Nat.le_refl _, Nat.le_refl _⟩) (fun r18 s19 H locs hw Z => ?_)
        refine io_iald B Z 108 (by decide) io_e_108 hw.1 dX8_work_195 ?_
        have hw := hw.2
        refine lv_aload_n B.1 B.2.1 dX8_work_196 rfl (lv_at hl 0 rfl) ?_
        refine io_g_8_6 B Z dX8_work_197 ?_
        refine lv_aload_n B.1 B.2.1 dX8_work_200 rfl (lv_at hl 0 rfl) ?_
        refine io_g_8_0 B Z dX8_work_201 ?_
        refine lv_iload_n B.1 B.2.1 dX8_work_204 rfl (lv_at hl 1 rfl) ?_
        refine io_call_i Z (io_runV (ci := 7) (k := 96) [.int p1] [.ref (ad 109), .int (s19 108 (r18).toNatClampNeg), .ref (ad 107)] B Z (io_c_X7_first l D ca ad A _ p1 _ hw) io_k_8_85 (io_hR (by omega) (by decide)) rfl (by decide) (io_e_96 _) rfl hl.1 (Nat.le_of_ble_eq_true rfl) dX8_work_205 ⟨Nat.le_refl _, Nat.le_refl _⟩) (fun r20 s21 H locs hw Z => ?_)
        refine io_iald B Z 109 (by decide) io_e_109 hw.1 dX8_work_208 ?_
        have hw := hw.2
        refine io_call_i Z (io_runV (ci := 8) (k := 107) [.int (s19 108 (r18).toNatClampNeg), .int (s21 109 (r20).toNatClampNeg)] [] B Z (io_c_X8_give l D ca ad A _ (s19 108 (r18).toNatClampNeg) (s21 109 (r20).toNatClampNeg) _ hw) io_k_8_88 (io_hR (by omega) (by decide)) rfl (by decide) (io_e_107 _) rfl hl.1 (Nat.le_of_ble_eq_true rfl) dX8_work_209 ⟨Nat.le_refl _, Nat.le_refl _⟩) (fun r22 s23 H locs hw Z => ?_)
        obtain ⟨b24, hw⟩ := hw
        exact io_ret_z B Z hr hlk b24 hw dX8_work_212
      have hw := hw.2 k17
      rcases Classical.em (r9 = 2) with k25 | k25
      · have hw := hw.1 k25
        refine lv_tableIn (tgt := 213) (off := 174) B.1 B.2.1 dX8_work_39 (by rw [k25]; decide) (by rw [k25]; decide) (by rw [k25]; decide) (by decide) ?_
        refine lv_aload_n B.1 B.2.1 dX8_work_213 rfl (lv_at hl 0 rfl) ?_
        refine lv_iload_n B.1 B.2.1 dX8_work_214 rfl (lv_at hl 1 rfl) ?_
        refine lv_iload_n B.1 B.2.1 dX8_work_215 rfl (lv_at hl 2 rfl) ?_
        refine io_call_i Z (io_runV (ci := 8) (k := 107) [.int p1, .int p2] [] B Z (io_c_X8_workSet l D ca ad A N K hK _ p1 p2 _ hw) io_k_8_91 (io_hR (by omega) (by decide)) rfl (by decide) (io_e_107 _) rfl hl.1 (Nat.le_of_ble_eq_true rfl) dX8_work_216 ⟨Nat.le_refl _, Nat.le_refl _⟩) (fun r26 s27 H locs hw Z => ?_)
        obtain ⟨b28, hw⟩ := hw
        exact io_ret_z B Z hr hlk b28 hw dX8_work_219
      have hw := hw.2 k25
      rcases Classical.em (r9 = 3 ∨ r9 = 15 ∨ r9 = 16 ∨ r9 = 18) with k29 | k29
      · have hw := hw.1 k29
        refine lv_tableIn (tgt := 241) (off := 202) B.1 B.2.1 dX8_work_39 (by rcases k29 with k29 | k29 | k29 | k29 <;> rw [k29] <;> decide) (by rcases k29 with k29 | k29 | k29 | k29 <;> rw [k29] <;> decide) (by rcases k29 with k29 | k29 | k29 | k29 <;> rw [k29] <;> decide) (by decide) ?_
        refine lv_aload_n B.1 B.2.1 dX8_work_241 rfl (lv_at hl 0 rfl) ?_
        refine lv_iload_n B.1 B.2.1 dX8_work_242 rfl (lv_at hl 1 rfl) ?_
        refine io_call_i Z (io_runV (ci := 8) (k := 107) [.int p1] [] B Z (io_c_X8_actAlone l D ca ad A _ p1 _ hw) io_k_8_103 (io_hR (by omega) (by decide)) rfl (by decide) (io_e_107 _) rfl hl.1 (Nat.le_of_ble_eq_true rfl) dX8_work_243 ⟨Nat.le_refl _, Nat.le_refl _⟩) (fun r30 s31 H locs hw Z => ?_)
        obtain ⟨b32, hw⟩ := hw
        exact io_ret_z B Z hr hlk b32 hw dX8_work_246
      have hw := hw.2 k29
      rcases Classical.em (r9 = 5 ∨ r9 = 10) with k33 | k33
      · have hw := hw.1 k33
        refine lv_tableIn (tgt := 220) (off := 181) B.1 B.2.1 dX8_work_39 (by rcases k33 with k33 | k33 <;> rw [k33] <;> decide) (by rcases k33 with k33 | k33 <;> rw [k33] <;> decide) (by rcases k33 with k33 | k33 <;> rw [k33] <;> decide) (by decide) ?_
        refine lv_aload_n B.1 B.2.1 dX8_work_220 rfl (lv_at hl 0 rfl) ?_
        refine lv_iload_n B.1 B.2.1 dX8_work_221 rfl (lv_at hl 1 rfl) ?_
        refine lv_iload_n B.1 B.2.1 dX8_work_222 rfl (lv_at hl 2 rfl) ?_
        refine io_call_i Z (io_runV (ci := 8) (k := 107) [.int p1, .int p2] [] B Z (io_c_X8_workHandleAndNumber l D ca ad A N K hK _ p1 p2 _ hw) io_k_8_94 (io_hR (by omega) (by decide)) rfl (by decide) (io_e_107 _) rfl hl.1 (Nat.le_of_ble_eq_true rfl) dX8_work_223 ⟨Nat.le_refl _, Nat.le_refl _⟩) (fun r34 s35 H locs hw Z => ?_)
        obtain ⟨b36, hw⟩ := hw
        exact io_ret_z B Z hr hlk b36 hw dX8_work_226
      have hw := hw.2 k33
      rcases Classical.em (r9 = 8) with k37 | k37
      · have hw := hw.1 k37
        refine lv_tableIn (tgt := 227) (off := 188) B.1 B.2.1 dX8_work_39 (by rw [k37]; decide) (by rw [k37]; decide) (by rw [k37]; decide) (by decide) ?_
        refine lv_aload_n B.1 B.2.1 dX8_work_227 rfl (lv_at hl 0 rfl) ?_
        refine lv_iload_n B.1 B.2.1 dX8_work_228 rfl (lv_at hl 1 rfl) ?_
        refine lv_iload_n B.1 B.2.1 dX8_work_229 rfl (lv_at hl 2 rfl) ?_
        refine io_call_i Z (io_runV (ci := 8) (k := 107) [.int p1, .int p2] [] B Z (io_c_X8_workItem l D ca ad A N K hK _ p1 p2 _ hw) io_k_8_97 (io_hR (by omega) (by decide)) rfl (by decide) (io_e_107 _) rfl hl.1 (Nat.le_of_ble_eq_true rfl) dX8_work_230 ⟨Nat.le_refl _, Nat.le_refl _⟩) (fun r38 s39 H locs hw Z => ?_)
        obtain ⟨b40, hw⟩ := hw
        exact io_ret_z B Z hr hlk b40 hw dX8_work_233
      have hw := hw.2 k37
      rcases Classical.em (r9 = 9) with k41 | k41
      · have hw := hw.1 k41
        refine lv_tableIn (tgt := 234) (off := 195) B.1 B.2.1 dX8_work_39 (by rw [k41]; decide) (by rw [k41]; decide) (by rw [k41]; decide) (by decide) ?_
        refine lv_aload_n B.1 B.2.1 dX8_work_234 rfl (lv_at hl 0 rfl) ?_
        refine lv_iload_n B.1 B.2.1 dX8_work_235 rfl (lv_at hl 1 rfl) ?_
        refine lv_iload_n B.1 B.2.1 dX8_work_236 rfl (lv_at hl 2 rfl) ?_
        refine io_call_i Z (io_runV (ci := 8) (k := 107) [.int p1, .int p2] [] B Z (io_c_X8_workLength l D ca ad A N K hK _ p1 p2 _ hw) io_k_8_100 (io_hR (by omega) (by decide)) rfl (by decide) (io_e_107 _) rfl hl.1 (Nat.le_of_ble_eq_true rfl) dX8_work_237 ⟨Nat.le_refl _, Nat.le_refl _⟩) (fun r42 s43 H locs hw Z => ?_)
        obtain ⟨b44, hw⟩ := hw
        exact io_ret_z B Z hr hlk b44 hw dX8_work_240
      have hw := hw.2 k41
      rcases Classical.em (r9 = 17 ∨ r9 = 20 ∨ r9 = 23 ∨ r9 = 25) with k45 | k45
      · have hw := hw.1 k45
        refine lv_tableIn (tgt := 247) (off := 208) B.1 B.2.1 dX8_work_39 (by rcases k45 with k45 | k45 | k45 | k45 <;> rw [k45] <;> decide) (by rcases k45 with k45 | k45 | k45 | k45 <;> rw [k45] <;> decide) (by rcases k45 with k45 | k45 | k45 | k45 <;> rw [k45] <;> decide) (by decide) ?_
        refine lv_aload_n B.1 B.2.1 dX8_work_247 rfl (lv_at hl 0 rfl) ?_
        refine lv_iload_n B.1 B.2.1 dX8_work_248 rfl (lv_at hl 1 rfl) ?_
        refine lv_iload_n B.1 B.2.1 dX8_work_249 rfl (lv_at hl 2 rfl) ?_
        refine io_call_i Z (io_runV (ci := 8) (k := 107) [.int p1, .int p2] [] B Z (io_c_X8_workNumberFirst l D ca ad A N K hK _ p1 p2 _ hw) io_k_8_107 (io_hR (by omega) (by decide)) rfl (by decide) (io_e_107 _) rfl hl.1 (Nat.le_of_ble_eq_true rfl) dX8_work_250 ⟨Nat.le_refl _, Nat.le_refl _⟩) (fun r46 s47 H locs hw Z => ?_)
        obtain ⟨b48, hw⟩ := hw
        exact io_ret_z B Z hr hlk b48 hw dX8_work_253
      have hw := hw.2 k45
      rcases Classical.em (r9 = 19) with k49 | k49
      · have hw := hw.1 k49
        refine lv_tableIn (tgt := 254) (off := 215) B.1 B.2.1 dX8_work_39 (by rw [k49]; decide) (by rw [k49]; decide) (by rw [k49]; decide) (by decide) ?_
        refine lv_aload_n B.1 B.2.1 dX8_work_254 rfl (lv_at hl 0 rfl) ?_
        refine lv_aload_n B.1 B.2.1 dX8_work_255 rfl (lv_at hl 0 rfl) ?_
        refine io_g_8_0 B Z dX8_work_256 ?_
        refine lv_iload_n B.1 B.2.1 dX8_work_259 rfl (lv_at hl 1 rfl) ?_
        refine io_call_i Z (io_runV (ci := 7) (k := 96) [.int p1] [.ref (ad 107)] B Z (io_c_X7_first l D ca ad A _ p1 _ hw) io_k_8_85 (io_hR (by omega) (by decide)) rfl (by decide) (io_e_96 _) rfl hl.1 (Nat.le_of_ble_eq_true rfl) dX8_work_260 ⟨Nat.le_refl _, Nat.le_refl _⟩) (fun r50 s51 H locs hw Z => ?_)
        refine lv_iload_n B.1 B.2.1 dX8_work_263 rfl (lv_at hl 2 rfl) ?_
        refine lv_iconst (v := 1) B.1 B.2.1 dX8_work_264 (by decide) ?_
        refine lv_iadd B.1 B.2.1 dX8_work_265 ?_
        refine io_call_i Z (io_runV (ci := 8) (k := 107) [.int r50, .int (p2 + 1)] [] B Z (hK _ r50 (p2 + 1) _ hw) io_k_8_68 (io_hR (by omega) (by decide)) rfl (by decide) (io_e_107 _) rfl hl.1 (Nat.le_of_ble_eq_true rfl) dX8_work_266 ⟨Nat.le_refl _, Nat.le_refl _⟩) (fun r52 s53 H locs hw Z => ?_)
        obtain ⟨b54, hw⟩ := hw
        refine lv_if_eq (tgt := 294) B.1 B.2.1 dX8_work_269 (by decide) (fun k55 => ?_) (fun k55 => ?_)
        · have hw := hw.1 k55
          refine lv_iconst (v := 0) B.1 B.2.1 dX8_work_294 (by decide) ?_
          exact io_ret_z B Z hr hlk (Or.inl rfl) hw dX8_work_295
        · have hw := hw.2 k55
          refine lv_aload_n B.1 B.2.1 dX8_work_272 rfl (lv_at hl 0 rfl) ?_
          refine lv_aload_n B.1 B.2.1 dX8_work_273 rfl (lv_at hl 0 rfl) ?_
          refine io_g_8_0 B Z dX8_work_274 ?_
          refine lv_iload_n B.1 B.2.1 dX8_work_277 rfl (lv_at hl 1 rfl) ?_
          refine io_call_i Z (io_runV (ci := 7) (k := 96) [.int p1] [.ref (ad 107)] B Z (io_c_X7_second l D ca ad A _ p1 _ hw) io_k_8_110 (io_hR (by omega) (by decide)) rfl (by decide) (io_e_96 _) rfl hl.1 (Nat.le_of_ble_eq_true rfl) dX8_work_278 ⟨Nat.le_refl _, Nat.le_refl _⟩) (fun r56 s57 H locs hw Z => ?_)
          refine lv_iload_n B.1 B.2.1 dX8_work_281 rfl (lv_at hl 2 rfl) ?_
          refine lv_iconst (v := 1) B.1 B.2.1 dX8_work_282 (by decide) ?_
          refine lv_iadd B.1 B.2.1 dX8_work_283 ?_
          refine io_call_i Z (io_runV (ci := 8) (k := 107) [.int r56, .int (p2 + 1)] [] B Z (hK _ r56 (p2 + 1) _ hw) io_k_8_68 (io_hR (by omega) (by decide)) rfl (by decide) (io_e_107 _) rfl hl.1 (Nat.le_of_ble_eq_true rfl) dX8_work_284 ⟨Nat.le_refl _, Nat.le_refl _⟩) (fun r58 s59 H locs hw Z => ?_)
          obtain ⟨b60, hw⟩ := hw
          refine lv_if_eq (tgt := 294) B.1 B.2.1 dX8_work_287 (by decide) (fun k61 => ?_) (fun k61 => ?_)
          · have hw := hw.1 k61
            refine lv_iconst (v := 0) B.1 B.2.1 dX8_work_294 (by decide) ?_
            exact io_ret_z B Z hr hlk (Or.inl rfl) hw dX8_work_295
          · have hw := hw.2 k61
            refine lv_iconst (v := 1) B.1 B.2.1 dX8_work_290 (by decide) ?_
            refine lv_goto (tgt := 295) B.1 B.2.1 dX8_work_291 (by decide) ?_
            exact io_ret_z B Z hr hlk (Or.inr rfl) hw dX8_work_295
      have hw := hw.2 k49
      rcases Classical.em (r9 = 21 ∨ r9 = 22) with k62 | k62
      · have hw := hw.1 k62
        refine lv_tableIn (tgt := 296) (off := 257) B.1 B.2.1 dX8_work_39 (by rcases k62 with k62 | k62 <;> rw [k62] <;> decide) (by rcases k62 with k62 | k62 <;> rw [k62] <;> decide) (by rcases k62 with k62 | k62 <;> rw [k62] <;> decide) (by decide) ?_
        refine lv_aload_n B.1 B.2.1 dX8_work_296 rfl (lv_at hl 0 rfl) ?_
        refine lv_iload_n B.1 B.2.1 dX8_work_297 rfl (lv_at hl 1 rfl) ?_
        refine lv_iload_n B.1 B.2.1 dX8_work_298 rfl (lv_at hl 2 rfl) ?_
        refine io_call_i Z (io_runV (ci := 8) (k := 107) [.int p1, .int p2] [] B Z (io_c_X8_workTwoNumbers l D ca ad A N K hK _ p1 p2 _ hw) io_k_8_113 (io_hR (by omega) (by decide)) rfl (by decide) (io_e_107 _) rfl hl.1 (Nat.le_of_ble_eq_true rfl) dX8_work_299 ⟨Nat.le_refl _, Nat.le_refl _⟩) (fun r63 s64 H locs hw Z => ?_)
        obtain ⟨b65, hw⟩ := hw
        exact io_ret_z B Z hr hlk b65 hw dX8_work_302
      have hw := hw.2 k62
      rcases Classical.em (r9 = 24) with k66 | k66
      · have hw := hw.1 k66
        refine lv_tableIn (tgt := 303) (off := 264) B.1 B.2.1 dX8_work_39 (by rw [k66]; decide) (by rw [k66]; decide) (by rw [k66]; decide) (by decide) ?_
        refine lv_aload_n B.1 B.2.1 dX8_work_303 rfl (lv_at hl 0 rfl) ?_
        refine lv_aload_n B.1 B.2.1 dX8_work_304 rfl (lv_at hl 0 rfl) ?_
        refine io_g_8_0 B Z dX8_work_305 ?_
        refine lv_iload_n B.1 B.2.1 dX8_work_308 rfl (lv_at hl 1 rfl) ?_
        refine io_call_i Z (io_runV (ci := 7) (k := 96) [.int p1] [.ref (ad 107)] B Z (io_c_X7_first l D ca ad A _ p1 _ hw) io_k_8_85 (io_hR (by omega) (by decide)) rfl (by decide) (io_e_96 _) rfl hl.1 (Nat.le_of_ble_eq_true rfl) dX8_work_309 ⟨Nat.le_refl _, Nat.le_refl _⟩) (fun r67 s68 H locs hw Z => ?_)
        refine lv_iload_n B.1 B.2.1 dX8_work_312 rfl (lv_at hl 1 rfl) ?_
        refine io_call_i Z (io_runV (ci := 8) (k := 107) [.int r67, .int p1] [] B Z (io_c_X8_fail l D ca ad A _ r67 p1 _ hw) io_k_8_116 (io_hR (by omega) (by decide)) rfl (by decide) (io_e_107 _) rfl hl.1 (Nat.le_of_ble_eq_true rfl) dX8_work_313 ⟨Nat.le_refl _, Nat.le_refl _⟩) (fun r69 s70 H locs hw Z => ?_)
        obtain ⟨b71, hw⟩ := hw
        exact io_ret_z B Z hr hlk b71 hw dX8_work_316
      have hw := hw.2 k66
      rcases Classical.em (r9 = 26) with k72 | k72
      · have hw := hw.1 k72
        refine lv_tableIn (tgt := 317) (off := 278) B.1 B.2.1 dX8_work_39 (by rw [k72]; decide) (by rw [k72]; decide) (by rw [k72]; decide) (by decide) ?_
        refine lv_aload_n B.1 B.2.1 dX8_work_317 rfl (lv_at hl 0 rfl) ?_
        refine lv_iload_n B.1 B.2.1 dX8_work_318 rfl (lv_at hl 1 rfl) ?_
        refine lv_iload_n B.1 B.2.1 dX8_work_319 rfl (lv_at hl 2 rfl) ?_
        refine io_call_i Z (io_runV (ci := 8) (k := 107) [.int p1, .int p2] [] B Z (io_c_X8_workCatch l D ca ad A N K hK _ p1 p2 _ hw) io_k_8_119 (io_hR (by omega) (by decide)) rfl (by decide) (io_e_107 _) rfl hl.1 (Nat.le_of_ble_eq_true rfl) dX8_work_320 ⟨Nat.le_refl _, Nat.le_refl _⟩) (fun r73 s74 H locs hw Z => ?_)
        obtain ⟨b75, hw⟩ := hw
        exact io_ret_z B Z hr hlk b75 hw dX8_work_323
      have hw := hw.2 k72
      rcases Classical.em (r9 = 27) with k76 | k76
      · have hw := hw.1 k76
        refine lv_tableIn (tgt := 324) (off := 285) B.1 B.2.1 dX8_work_39 (by rw [k76]; decide) (by rw [k76]; decide) (by rw [k76]; decide) (by decide) ?_
        refine lv_aload_n B.1 B.2.1 dX8_work_324 rfl (lv_at hl 0 rfl) ?_
        refine lv_aload_n B.1 B.2.1 dX8_work_325 rfl (lv_at hl 0 rfl) ?_
        refine io_g_8_0 B Z dX8_work_326 ?_
        refine lv_iload_n B.1 B.2.1 dX8_work_329 rfl (lv_at hl 1 rfl) ?_
        refine io_call_i Z (io_runV (ci := 7) (k := 96) [.int p1] [.ref (ad 107)] B Z (io_c_X7_first l D ca ad A _ p1 _ hw) io_k_8_85 (io_hR (by omega) (by decide)) rfl (by decide) (io_e_96 _) rfl hl.1 (Nat.le_of_ble_eq_true rfl) dX8_work_330 ⟨Nat.le_refl _, Nat.le_refl _⟩) (fun r77 s78 H locs hw Z => ?_)
        refine lv_iload_n B.1 B.2.1 dX8_work_333 rfl (lv_at hl 2 rfl) ?_
        refine lv_iconst (v := 1) B.1 B.2.1 dX8_work_334 (by decide) ?_
        refine lv_iadd B.1 B.2.1 dX8_work_335 ?_
        refine io_call_i Z (io_runV (ci := 8) (k := 107) [.int r77, .int (p2 + 1)] [] B Z (hK _ r77 (p2 + 1) _ hw) io_k_8_68 (io_hR (by omega) (by decide)) rfl (by decide) (io_e_107 _) rfl hl.1 (Nat.le_of_ble_eq_true rfl) dX8_work_336 ⟨Nat.le_refl _, Nat.le_refl _⟩) (fun r79 s80 H locs hw Z => ?_)
        obtain ⟨b81, hw⟩ := hw
        refine lv_pop B.1 B.2.1 dX8_work_339 rfl ?_
        refine lv_aload_n B.1 B.2.1 dX8_work_340 rfl (lv_at hl 0 rfl) ?_
        refine lv_aload_n B.1 B.2.1 dX8_work_341 rfl (lv_at hl 0 rfl) ?_
        refine io_g_8_0 B Z dX8_work_342 ?_
        refine lv_iload_n B.1 B.2.1 dX8_work_345 rfl (lv_at hl 1 rfl) ?_
        refine io_call_i Z (io_runV (ci := 7) (k := 96) [.int p1] [.ref (ad 107)] B Z (io_c_X7_second l D ca ad A _ p1 _ hw) io_k_8_110 (io_hR (by omega) (by decide)) rfl (by decide) (io_e_96 _) rfl hl.1 (Nat.le_of_ble_eq_true rfl) dX8_work_346 ⟨Nat.le_refl _, Nat.le_refl _⟩) (fun r82 s83 H locs hw Z => ?_)
        refine lv_iload_n B.1 B.2.1 dX8_work_349 rfl (lv_at hl 2 rfl) ?_
        refine io_call_i Z (io_runV (ci := 8) (k := 107) [.int r82, .int p2] [] B Z (io_c_X8_workEnd l D ca ad A N K hK _ r82 p2 _ hw) io_k_8_122 (io_hR (by omega) (by decide)) rfl (by decide) (io_e_107 _) rfl hl.1 (Nat.le_of_ble_eq_true rfl) dX8_work_350 ⟨Nat.le_refl _, Nat.le_refl _⟩) (fun r84 s85 H locs hw Z => ?_)
        obtain ⟨b86, hw⟩ := hw
        exact io_ret_z B Z hr hlk b86 hw dX8_work_353
      have hw := hw.2 k76
      rcases Classical.em (r9 = 28) with k87 | k87
      · have hw := hw.1 k87
        refine lv_tableIn (tgt := 354) (off := 315) B.1 B.2.1 dX8_work_39 (by rw [k87]; decide) (by rw [k87]; decide) (by rw [k87]; decide) (by decide) ?_
        refine lv_aload_n B.1 B.2.1 dX8_work_354 rfl (lv_at hl 0 rfl) ?_
        refine lv_iload_n B.1 B.2.1 dX8_work_355 rfl (lv_at hl 1 rfl) ?_
        refine lv_iload_n B.1 B.2.1 dX8_work_356 rfl (lv_at hl 2 rfl) ?_
        refine io_call_i Z (io_runV (ci := 8) (k := 107) [.int p1, .int p2] [] B Z (io_c_X8_workBracket l D ca ad A N K hK _ p1 p2 _ hw) io_k_8_125 (io_hR (by omega) (by decide)) rfl (by decide) (io_e_107 _) rfl hl.1 (Nat.le_of_ble_eq_true rfl) dX8_work_357 ⟨Nat.le_refl _, Nat.le_refl _⟩) (fun r88 s89 H locs hw Z => ?_)
        obtain ⟨b90, hw⟩ := hw
        exact io_ret_z B Z hr hlk b90 hw dX8_work_360
      have hw := hw.2 k87
      refine io_tswE (tgt := 361) (fun z => (([0, 1, 2, 3, 15, 16, 18, 5, 10, 8, 9, 17, 20, 23, 25, 19, 21, 22, 24, 26, 27, 28] : List Int32).contains z) = true) B dX8_work_39 (by decide) (by decide) (by decide) (by decide +kernel) (io_nc (List.forall_mem_cons.mpr ⟨fun q => k11 (q), (List.forall_mem_cons.mpr ⟨fun q => k17 (q), (List.forall_mem_cons.mpr ⟨fun q => k25 (q), (List.forall_mem_cons.mpr ⟨fun q => k29 (Or.inl q), (List.forall_mem_cons.mpr ⟨fun q => k29 (Or.inr (Or.inl q)), (List.forall_mem_cons.mpr ⟨fun q => k29 (Or.inr (Or.inr (Or.inl q))), (List.forall_mem_cons.mpr ⟨fun q => k29 (Or.inr (Or.inr (Or.inr (q)))), (List.forall_mem_cons.mpr ⟨fun q => k33 (Or.inl q), (List.forall_mem_cons.mpr ⟨fun q => k33 (Or.inr (q)), (List.forall_mem_cons.mpr ⟨fun q => k37 (q), (List.forall_mem_cons.mpr ⟨fun q => k41 (q), (List.forall_mem_cons.mpr ⟨fun q => k45 (Or.inl q), (List.forall_mem_cons.mpr ⟨fun q => k45 (Or.inr (Or.inl q)), (List.forall_mem_cons.mpr ⟨fun q => k45 (Or.inr (Or.inr (Or.inl q))), (List.forall_mem_cons.mpr ⟨fun q => k45 (Or.inr (Or.inr (Or.inr (q)))), (List.forall_mem_cons.mpr ⟨fun q => k49 (q), (List.forall_mem_cons.mpr ⟨fun q => k62 (Or.inl q), (List.forall_mem_cons.mpr ⟨fun q => k62 (Or.inr (q)), (List.forall_mem_cons.mpr ⟨fun q => k66 (q), (List.forall_mem_cons.mpr ⟨fun q => k72 (q), (List.forall_mem_cons.mpr ⟨fun q => k76 (q), (List.forall_mem_cons.mpr ⟨fun q => k87 (q), (fun _ h => absurd h List.not_mem_nil)⟩)⟩)⟩)⟩)⟩)⟩)⟩)⟩)⟩)⟩)⟩)⟩)⟩)⟩)⟩)⟩)⟩)⟩)⟩)⟩)⟩)⟩)) ?_
      refine lv_aload_n B.1 B.2.1 dX8_work_361 rfl (lv_at hl 0 rfl) ?_
      refine lv_iload_n B.1 B.2.1 dX8_work_362 rfl (lv_at hl 1 rfl) ?_
      refine lv_iload_n B.1 B.2.1 dX8_work_363 rfl (lv_at hl 2 rfl) ?_
      refine io_call_i Z (io_runV (ci := 8) (k := 107) [.int p1, .int p2] [] B Z (io_c_X8_workHandle l D ca ad A N K hK _ p1 p2 _ hw) io_k_8_128 (io_hR (by omega) (by decide)) rfl (by decide) (io_e_107 _) rfl hl.1 (Nat.le_of_ble_eq_true rfl) dX8_work_364 ⟨Nat.le_refl _, Nat.le_refl _⟩) (fun r91 s92 H locs hw Z => ?_)
      obtain ⟨b93, hw⟩ := hw
      exact io_ret_z B Z hr hlk b93 hw dX8_work_367
    · have hw := hw.2 k6
      refine lv_aload_n B.1 B.2.1 dX8_work_16 rfl (lv_at hl 0 rfl) ?_
      refine io_call_i Z (io_runV (ci := 8) (k := 107) [] [] B Z (io_c_X8_stop l D ca ad A _ _ hw) io_k_8_75 (io_hR (by omega) (by decide)) rfl (by decide) (io_e_107 _) rfl hl.1 (Nat.le_of_ble_eq_true rfl) dX8_work_17 ⟨Nat.le_refl _, Nat.le_refl _⟩) (fun r94 s95 H locs hw Z => ?_)
      obtain ⟨b96, hw⟩ := hw
      exact io_ret_z B Z hr hlk b96 hw dX8_work_20
theorem io_c_X8_work (l : Launch) (D : va_G) (ca : Nat → ClassId) (ad : Nat → Nat) (A : Nat → Prop) : ∀ (d : Nat) (σ : io_M) (p1 p2 : Int32) (post : Int32 → io_M → Prop), wp_X8_work d σ p1 p2 post → Met l yX8_work (.code yX8_work cX8_work 3 (some .boolean) :: io_tb) (io_rm (10 * d + 10)) (va_Pc [.ref (ad 107), .int p1, .int p2] (io_W D ca ad A σ)) (va_Qi (fun r u => io_bl r ∧ post r u) (io_W D ca ad A) A) 0 0 A := by
  intro d
  induction d with
  | zero =>
    intro σ p1 p2 post hw
    exact hw.elim
  | succ d ih =>
    intro σ p1 p2 post hw
    exact io_c_X8_workb l D ca ad A (10 * d) (wp_X8_work d) ih σ p1 p2 post hw
def wp_X8_perform (σ : io_M) (p1 : Int32) (post : Int32 → io_M → Prop) : Prop := (wp_J7_fill_53178_108 σ 0 (fun s3 => (wp_J7_fill_53178_109 s3 0 (fun s5 => (wp_X3_forget s5 (fun s7 => (wp_X6_forget s7 (fun s9 => (wp_X4_forget s9 (fun s11 => (∀ s12, s12 = io_up s11 107 10 0 → (wp_X8_work 62 s12 p1 1 (fun r14 s15 => (wp_X3_closeBehindRun s15 (fun s18 => post (s18 107 7) s18)))))))))))))))
set_option maxHeartbeats 4000000 in
set_option maxRecDepth 100000 in
theorem io_c_X8_perform (l : Launch) (D : va_G) (ca : Nat → ClassId) (ad : Nat → Nat) (A : Nat → Prop) (σ : io_M) (p1 : Int32) (post : Int32 → io_M → Prop) (hw : wp_X8_perform σ p1 post) : Met l yX8_perform (.code yX8_perform cX8_perform 2 (some .int) :: io_tb) (io_rm 641) (va_Pc [.ref (ad 107), .int p1] (io_W D ca ad A σ)) (va_Qi post (io_W D ca ad A) A) 0 0 A := by
  refine Met.ofW (cc := cX8_perform) (maxL := 2) (ret := (some .int)) (by decide) rfl ?_
  intro p e s m args below meth c s₁ Bd hml hv
  obtain ⟨rfl, hW0⟩ := hv
  have Z := io_Z.start hW0
  have B : CallFix p m c cX8_perform 2 s _ io_tb RX8 := ⟨Bd.exec, Bd.bytes, hml, findClass_of_methodNamed Bd.named, fun w hw => atoms_spec (ws := (.code yX8_perform cX8_perform 2 (some .int) :: io_tb)) Bd.pre w (List.mem_cons_of_mem _ hw)⟩
  have hr := Bd.returns
  have hlk := Bd.notSynchronized
  have hl := lv_entry ([.ref (ad 107), .int p1]) (n := 2) (Nat.le_of_ble_eq_true rfl)
  rw [lg_entry_eq]
  generalize (lg_sl ([.ref (ad 107), .int p1]) ++ List.replicate (2 - (lg_sl ([.ref (ad 107), .int p1])).length) Slot.unset).toArray = ls at hl ⊢
  have hl : lv_has ls 2 [(0, .ref (ad 107)), (1, .int p1)] := hl
  show W p l e (io_rm 641) s m _ below meth c s.heap [] 0 0 _ (F0 m 0 ls [])
  unfold wp_X8_perform at hw
  refine lv_aload_n B.1 B.2.1 dX8_perform_0 rfl (lv_at hl 0 rfl) ?_
  refine io_g_8_5 B Z dX8_perform_1 ?_
  refine lv_iconst (v := 0) B.1 B.2.1 dX8_perform_4 (by decide) ?_
  refine io_call_v Z (io_runS [.ref (ad 108), .int 0] [] B Z (io_c_J7_fill_53178_108 l D ca ad A _ 0 _ hw) io_k_8_51 (io_hR (by decide) (by decide)) rfl hl.1 (Nat.le_of_ble_eq_true rfl) dX8_perform_5 ⟨Nat.le_refl _, Nat.le_refl _⟩) (fun s3 H locs hw Z => ?_)
  refine lv_aload_n B.1 B.2.1 dX8_perform_8 rfl (lv_at hl 0 rfl) ?_
  refine io_g_8_6 B Z dX8_perform_9 ?_
  refine lv_iconst (v := 0) B.1 B.2.1 dX8_perform_12 (by decide) ?_
  refine io_call_v Z (io_runS [.ref (ad 109), .int 0] [] B Z (io_c_J7_fill_53178_109 l D ca ad A _ 0 _ hw) io_k_8_51 (io_hR (by decide) (by decide)) rfl hl.1 (Nat.le_of_ble_eq_true rfl) dX8_perform_13 ⟨Nat.le_refl _, Nat.le_refl _⟩) (fun s5 H locs hw Z => ?_)
  refine lv_aload_n B.1 B.2.1 dX8_perform_16 rfl (lv_at hl 0 rfl) ?_
  refine io_g_8_2 B Z dX8_perform_17 ?_
  refine io_call_v Z (io_runV (ci := 3) (k := 101) [] [] B Z (io_c_X3_forget l D ca ad A _ _ hw) io_k_8_57 (io_hR (by decide) (by decide)) rfl (by decide) (io_e_101 _) rfl hl.1 (Nat.le_of_ble_eq_true rfl) dX8_perform_20 ⟨Nat.le_refl _, Nat.le_refl _⟩) (fun s7 H locs hw Z => ?_)
  refine lv_aload_n B.1 B.2.1 dX8_perform_23 rfl (lv_at hl 0 rfl) ?_
  refine io_g_8_3 B Z dX8_perform_24 ?_
  refine io_call_v Z (io_runV (ci := 6) (k := 103) [] [] B Z (io_c_X6_forget l D ca ad A _ _ hw) io_k_8_62 (io_hR (by decide) (by decide)) rfl (by decide) (io_e_103 _) rfl hl.1 (Nat.le_of_ble_eq_true rfl) dX8_perform_27 ⟨Nat.le_refl _, Nat.le_refl _⟩) (fun s9 H locs hw Z => ?_)
  refine lv_aload_n B.1 B.2.1 dX8_perform_30 rfl (lv_at hl 0 rfl) ?_
  refine io_g_8_4 B Z dX8_perform_31 ?_
  refine io_call_v Z (io_runV (ci := 4) (k := 105) [] [] B Z (io_c_X4_forget l D ca ad A _ _ hw) io_k_8_65 (io_hR (by decide) (by decide)) rfl (by decide) (io_e_105 _) rfl hl.1 (Nat.le_of_ble_eq_true rfl) dX8_perform_34 ⟨Nat.le_refl _, Nat.le_refl _⟩) (fun s11 H locs hw Z => ?_)
  refine lv_aload_n B.1 B.2.1 dX8_perform_37 rfl (lv_at hl 0 rfl) ?_
  refine lv_iconst (v := 0) B.1 B.2.1 dX8_perform_38 (by decide) ?_
  refine io_p_8_10 B Z dX8_perform_39 (fun s12 H locs e13 Z => ?_)
  have hw := hw s12 e13
  refine lv_aload_n B.1 B.2.1 dX8_perform_42 rfl (lv_at hl 0 rfl) ?_
  refine lv_iload_n B.1 B.2.1 dX8_perform_43 rfl (lv_at hl 1 rfl) ?_
  refine lv_iconst (v := 1) B.1 B.2.1 dX8_perform_44 (by decide) ?_
  refine io_call_i Z (io_runV (ci := 8) (k := 107) [.int p1, .int 1] [] B Z (io_c_X8_work l D ca ad A 62 _ p1 1 _ hw) io_k_8_68 (io_hR (by decide) (by decide)) rfl (by decide) (io_e_107 _) rfl hl.1 (Nat.le_of_ble_eq_true rfl) dX8_perform_45 ⟨Nat.le_refl _, Nat.le_refl _⟩) (fun r14 s15 H locs hw Z => ?_)
  obtain ⟨b16, hw⟩ := hw
  refine lv_pop B.1 B.2.1 dX8_perform_48 rfl ?_
  refine lv_aload_n B.1 B.2.1 dX8_perform_49 rfl (lv_at hl 0 rfl) ?_
  refine io_g_8_2 B Z dX8_perform_50 ?_
  refine io_call_v Z (io_runV (ci := 3) (k := 101) [] [] B Z (io_c_X3_closeBehindRun l D ca ad A _ _ hw) io_k_8_72 (io_hR (by decide) (by decide)) rfl (by decide) (io_e_101 _) rfl hl.1 (Nat.le_of_ble_eq_true rfl) dX8_perform_53 ⟨Nat.le_refl _, Nat.le_refl _⟩) (fun s18 H locs hw Z => ?_)
  refine lv_aload_n B.1 B.2.1 dX8_perform_56 rfl (lv_at hl 0 rfl) ?_
  refine io_g_8_7 B Z dX8_perform_57 ?_
  exact io_ret_i B Z hr hlk hw dX8_perform_60
def wp_X8_outcome (σ : io_M) (post : Int32 → io_M → Prop) : Prop := post (σ 107 8) σ
set_option maxHeartbeats 4000000 in
set_option maxRecDepth 100000 in
theorem io_c_X8_outcome (l : Launch) (D : va_G) (ca : Nat → ClassId) (ad : Nat → Nat) (A : Nat → Prop) (σ : io_M) (post : Int32 → io_M → Prop) (hw : wp_X8_outcome σ post) : Met l yX8_outcome (.code yX8_outcome cX8_outcome 1 (some .int) :: io_tb) (io_rm 0) (va_Pc [.ref (ad 107)] (io_W D ca ad A σ)) (va_Qi post (io_W D ca ad A) A) 0 0 A := by
  refine Met.ofW (cc := cX8_outcome) (maxL := 1) (ret := (some .int)) (by decide) rfl ?_
  intro p e s m args below meth c s₁ Bd hml hv
  obtain ⟨rfl, hW0⟩ := hv
  have Z := io_Z.start hW0
  have B : CallFix p m c cX8_outcome 1 s _ io_tb RX8 := ⟨Bd.exec, Bd.bytes, hml, findClass_of_methodNamed Bd.named, fun w hw => atoms_spec (ws := (.code yX8_outcome cX8_outcome 1 (some .int) :: io_tb)) Bd.pre w (List.mem_cons_of_mem _ hw)⟩
  have hr := Bd.returns
  have hlk := Bd.notSynchronized
  have hl := lv_entry ([.ref (ad 107)]) (n := 1) (Nat.le_of_ble_eq_true rfl)
  rw [lg_entry_eq]
  generalize (lg_sl ([.ref (ad 107)]) ++ List.replicate (1 - (lg_sl ([.ref (ad 107)])).length) Slot.unset).toArray = ls at hl ⊢
  have hl : lv_has ls 1 [(0, .ref (ad 107))] := hl
  show W p l e (io_rm 0) s m _ below meth c s.heap [] 0 0 _ (F0 m 0 ls [])
  unfold wp_X8_outcome at hw
  refine lv_aload_n B.1 B.2.1 dX8_outcome_0 rfl (lv_at hl 0 rfl) ?_
  refine io_g_8_8 B Z dX8_outcome_1 ?_
  exact io_ret_i B Z hr hlk hw dX8_outcome_4
def wp_X8_failedNode (σ : io_M) (post : Int32 → io_M → Prop) : Prop := (((σ 107 7) = 3 → post (σ 107 9) σ) ∧ (¬ ((σ 107 7) = 3) → post (-1) σ))
set_option maxHeartbeats 4000000 in
set_option maxRecDepth 100000 in
theorem io_c_X8_failedNode (l : Launch) (D : va_G) (ca : Nat → ClassId) (ad : Nat → Nat) (A : Nat → Prop) (σ : io_M) (post : Int32 → io_M → Prop) (hw : wp_X8_failedNode σ post) : Met l yX8_failedNode (.code yX8_failedNode cX8_failedNode 1 (some .int) :: io_tb) (io_rm 0) (va_Pc [.ref (ad 107)] (io_W D ca ad A σ)) (va_Qi post (io_W D ca ad A) A) 0 0 A := by
  refine Met.ofW (cc := cX8_failedNode) (maxL := 1) (ret := (some .int)) (by decide) rfl ?_
  intro p e s m args below meth c s₁ Bd hml hv
  obtain ⟨rfl, hW0⟩ := hv
  have Z := io_Z.start hW0
  have B : CallFix p m c cX8_failedNode 1 s _ io_tb RX8 := ⟨Bd.exec, Bd.bytes, hml, findClass_of_methodNamed Bd.named, fun w hw => atoms_spec (ws := (.code yX8_failedNode cX8_failedNode 1 (some .int) :: io_tb)) Bd.pre w (List.mem_cons_of_mem _ hw)⟩
  have hr := Bd.returns
  have hlk := Bd.notSynchronized
  have hl := lv_entry ([.ref (ad 107)]) (n := 1) (Nat.le_of_ble_eq_true rfl)
  rw [lg_entry_eq]
  generalize (lg_sl ([.ref (ad 107)]) ++ List.replicate (1 - (lg_sl ([.ref (ad 107)])).length) Slot.unset).toArray = ls at hl ⊢
  have hl : lv_has ls 1 [(0, .ref (ad 107))] := hl
  show W p l e (io_rm 0) s m _ below meth c s.heap [] 0 0 _ (F0 m 0 ls [])
  unfold wp_X8_failedNode at hw
  refine lv_aload_n B.1 B.2.1 dX8_failedNode_0 rfl (lv_at hl 0 rfl) ?_
  refine io_g_8_7 B Z dX8_failedNode_1 ?_
  refine lv_iconst (v := 3) B.1 B.2.1 dX8_failedNode_4 (by decide) ?_
  refine lv_icmp_ne (tgt := 15) B.1 B.2.1 dX8_failedNode_5 (by decide) (fun k2 => ?_) (fun k2 => ?_)
  · have hw := hw.2 k2
    refine lv_iconst (v := (-1)) B.1 B.2.1 dX8_failedNode_15 (by decide) ?_
    exact io_ret_i B Z hr hlk hw dX8_failedNode_16
  · have hw := hw.1 k2
    refine lv_aload_n B.1 B.2.1 dX8_failedNode_8 rfl (lv_at hl 0 rfl) ?_
    refine io_g_8_9 B Z dX8_failedNode_9 ?_
    refine lv_goto (tgt := 16) B.1 B.2.1 dX8_failedNode_12 (by decide) ?_
    exact io_ret_i B Z hr hlk hw dX8_failedNode_16
def wp_X8_steps (σ : io_M) (post : Int32 → io_M → Prop) : Prop := post (σ 107 10) σ
set_option maxHeartbeats 4000000 in
set_option maxRecDepth 100000 in
theorem io_c_X8_steps (l : Launch) (D : va_G) (ca : Nat → ClassId) (ad : Nat → Nat) (A : Nat → Prop) (σ : io_M) (post : Int32 → io_M → Prop) (hw : wp_X8_steps σ post) : Met l yX8_steps (.code yX8_steps cX8_steps 1 (some .int) :: io_tb) (io_rm 0) (va_Pc [.ref (ad 107)] (io_W D ca ad A σ)) (va_Qi post (io_W D ca ad A) A) 0 0 A := by
  refine Met.ofW (cc := cX8_steps) (maxL := 1) (ret := (some .int)) (by decide) rfl ?_
  intro p e s m args below meth c s₁ Bd hml hv
  obtain ⟨rfl, hW0⟩ := hv
  have Z := io_Z.start hW0
  have B : CallFix p m c cX8_steps 1 s _ io_tb RX8 := ⟨Bd.exec, Bd.bytes, hml, findClass_of_methodNamed Bd.named, fun w hw => atoms_spec (ws := (.code yX8_steps cX8_steps 1 (some .int) :: io_tb)) Bd.pre w (List.mem_cons_of_mem _ hw)⟩
  have hr := Bd.returns
  have hlk := Bd.notSynchronized
  have hl := lv_entry ([.ref (ad 107)]) (n := 1) (Nat.le_of_ble_eq_true rfl)
  rw [lg_entry_eq]
  generalize (lg_sl ([.ref (ad 107)]) ++ List.replicate (1 - (lg_sl ([.ref (ad 107)])).length) Slot.unset).toArray = ls at hl ⊢
  have hl : lv_has ls 1 [(0, .ref (ad 107))] := hl
  show W p l e (io_rm 0) s m _ below meth c s.heap [] 0 0 _ (F0 m 0 ls [])
  unfold wp_X8_steps at hw
  refine lv_aload_n B.1 B.2.1 dX8_steps_0 rfl (lv_at hl 0 rfl) ?_
  refine io_g_8_10 B Z dX8_steps_1 ?_
  exact io_ret_i B Z hr hlk hw dX8_steps_4
