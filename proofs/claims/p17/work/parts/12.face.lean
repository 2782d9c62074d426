def wp_X9_lay (σ : io_M) (p1 : Int32) (p2 : Int32) (post : Int32 → io_M → Prop) : Prop := (wp_X9_within σ p1 8 (fun r2 s3 => ((r2 = 0 → post (-2) s3) ∧ (¬ (r2 = 0) → (wp_X9_within s3 p2 256 (fun r6 s7 => ((r6 = 0 → post (-2) s7) ∧ (¬ (r6 = 0) → (wp_X1_append s7 p1 p2 (fun r10 s11 => ((r10 = 0 → post (-3) s11) ∧ (¬ (r10 = 0) → (wp_X1_lengthOf s11 p1 (fun r14 s15 => post r14 s15))))))))))))))
set_option maxHeartbeats 4000000 in
set_option maxRecDepth 100000 in
theorem io_c_X9_lay (l : Launch) (D : va_G) (ca : Nat → ClassId) (ad : Nat → Nat) (A : Nat → Prop) (σ : io_M) (p1 : Int32) (p2 : Int32) (post : Int32 → io_M → Prop) (hw : wp_X9_lay σ p1 p2 post) : Met l yX9_lay (.code yX9_lay cX9_lay 3 (some .int) :: io_tb) (io_rm 1) (va_Pc [.ref (ad 110), .int p1, .int p2] (io_W D ca ad A σ)) (va_Qi post (io_W D ca ad A) A) 0 0 A := by
  refine Met.ofW (cc := cX9_lay) (maxL := 3) (ret := (some .int)) (by decide) rfl ?_
  intro p e s m args below meth c s₁ Bd hml hv
  obtain ⟨rfl, hW0⟩ := hv
  have Z := io_Z.start hW0
  have B : CallFix p m c cX9_lay 3 s _ io_tb RX9 := ⟨Bd.exec, Bd.bytes, hml, findClass_of_methodNamed Bd.named, fun w hw => atoms_spec (ws := (.code yX9_lay cX9_lay 3 (some .int) :: io_tb)) Bd.pre w (List.mem_cons_of_mem _ hw)⟩
  have hr := Bd.returns
  have hlk := Bd.notSynchronized
  have hl := lv_entry ([.ref (ad 110), .int p1, .int p2]) (n := 3) (Nat.le_of_ble_eq_true rfl)
  rw [lg_entry_eq]
  generalize (lg_sl ([.ref (ad 110), .int p1, .int p2]) ++ List.replicate (3 - (lg_sl ([.ref (ad 110), .int p1, .int p2])).length) Slot.unset).toArray = ls at hl ⊢
  have hl : lv_has ls 3 [(0, .ref (ad 110)), (1, .int p1), (2, .int p2)] := hl
  show W p l e (io_rm 1) s m _ below meth c s.heap [] 0 0 _ (F0 m 0 ls [])
  unfold wp_X9_lay at hw
  refine lv_iload_n B.1 B.2.1 dX9_lay_0 rfl (lv_at hl 1 rfl) ?_
  refine lv_bipush (v := 8) B.1 B.2.1 dX9_lay_1 (by decide) ?_
  refine io_call_i Z (io_runS [.int p1, .int 8] [] B Z (io_c_X9_within l D ca ad A _ p1 8 _ hw) io_k_9_62 (io_hR (by decide) (by decide)) rfl hl.1 (Nat.le_of_ble_eq_true rfl) dX9_lay_3 ⟨Nat.le_refl _, Nat.le_refl _⟩) (fun r2 s3 H locs hw Z => ?_)
  obtain ⟨b4, hw⟩ := hw
  refine lv_if_eq (tgt := 19) B.1 B.2.1 dX9_lay_6 (by decide) (fun k5 => ?_) (fun k5 => ?_)
  · have hw := hw.1 k5
    refine lv_bipush (v := (-2)) B.1 B.2.1 dX9_lay_19 (by decide) ?_
    exact io_ret_i B Z hr hlk hw dX9_lay_21
  · have hw := hw.2 k5
    refine lv_iload_n B.1 B.2.1 dX9_lay_9 rfl (lv_at hl 2 rfl) ?_
    refine lv_sipush (v := 256) B.1 B.2.1 dX9_lay_10 (by decide) ?_
    refine io_call_i Z (io_runS [.int p2, .int 256] [] B Z (io_c_X9_within l D ca ad A _ p2 256 _ hw) io_k_9_62 (io_hR (by decide) (by decide)) rfl hl.1 (Nat.le_of_ble_eq_true rfl) dX9_lay_13 ⟨Nat.le_refl _, Nat.le_refl _⟩) (fun r6 s7 H locs hw Z => ?_)
    obtain ⟨b8, hw⟩ := hw
    refine lv_if_ne (tgt := 22) B.1 B.2.1 dX9_lay_16 (by decide) (fun k9 => ?_) (fun k9 => ?_)
    · have hw := hw.2 k9
      refine lv_aload_n B.1 B.2.1 dX9_lay_22 rfl (lv_at hl 0 rfl) ?_
      refine io_g_9_0 B Z dX9_lay_23 ?_
      refine lv_iload_n B.1 B.2.1 dX9_lay_26 rfl (lv_at hl 1 rfl) ?_
      refine lv_iload_n B.1 B.2.1 dX9_lay_27 rfl (lv_at hl 2 rfl) ?_
      refine io_call_i Z (io_runV (ci := 1) (k := 88) [.int p1, .int p2] [] B Z (io_c_X1_append l D ca ad A _ p1 p2 _ hw) io_k_9_66 (io_hR (by decide) (by decide)) rfl (by decide) (io_e_88 _) rfl hl.1 (Nat.le_of_ble_eq_true rfl) dX9_lay_28 ⟨Nat.le_refl _, Nat.le_refl _⟩) (fun r10 s11 H locs hw Z => ?_)
      obtain ⟨b12, hw⟩ := hw
      refine lv_if_eq (tgt := 45) B.1 B.2.1 dX9_lay_31 (by decide) (fun k13 => ?_) (fun k13 => ?_)
      · have hw := hw.1 k13
        refine lv_bipush (v := (-3)) B.1 B.2.1 dX9_lay_45 (by decide) ?_
        exact io_ret_i B Z hr hlk hw dX9_lay_47
      · have hw := hw.2 k13
        refine lv_aload_n B.1 B.2.1 dX9_lay_34 rfl (lv_at hl 0 rfl) ?_
        refine io_g_9_0 B Z dX9_lay_35 ?_
        refine lv_iload_n B.1 B.2.1 dX9_lay_38 rfl (lv_at hl 1 rfl) ?_
        refine io_call_i Z (io_runV (ci := 1) (k := 88) [.int p1] [] B Z (io_c_X1_lengthOf l D ca ad A _ p1 _ hw) io_k_9_69 (io_hR (by decide) (by decide)) rfl (by decide) (io_e_88 _) rfl hl.1 (Nat.le_of_ble_eq_true rfl) dX9_lay_39 ⟨Nat.le_refl _, Nat.le_refl _⟩) (fun r14 s15 H locs hw Z => ?_)
        refine lv_goto (tgt := 47) B.1 B.2.1 dX9_lay_42 (by decide) ?_
        exact io_ret_i B Z hr hlk hw dX9_lay_47
    · have hw := hw.1 k9
      refine lv_bipush (v := (-2)) B.1 B.2.1 dX9_lay_19 (by decide) ?_
      exact io_ret_i B Z hr hlk hw dX9_lay_21
def wj_X9_there_28 (σ : io_M) (x1 : Int32) (x2 : Int32) (y0 : Int32) (post : Int32 → io_M → Prop) : Prop := ((x2 = 0 → (wp_X1_remove σ x1 (fun s103 => post y0 s103))) ∧ (¬ (x2 = 0) → (wp_X1_create σ x1 (fun s105 => post y0 s105))))
def wp_X9_there (σ : io_M) (p1 : Int32) (p2 : Int32) (post : Int32 → io_M → Prop) : Prop := (wp_X9_within σ p1 8 (fun r2 s3 => ((r2 = 0 → post (-2) s3) ∧ (¬ (r2 = 0) → (wp_X1_isThere s3 p1 (fun r6 s7 => ((r6 = 0 → wj_X9_there_28 s7 p1 p2 0 post) ∧ (¬ (r6 = 0) → wj_X9_there_28 s7 p1 p2 1 post))))))))
set_option maxHeartbeats 4000000 in
set_option maxRecDepth 100000 in
theorem io_c_X9_there (l : Launch) (D : va_G) (ca : Nat → ClassId) (ad : Nat → Nat) (A : Nat → Prop) (σ : io_M) (p1 : Int32) (p2 : Int32) (post : Int32 → io_M → Prop) (hw : wp_X9_there σ p1 p2 post) : Met l yX9_there (.code yX9_there cX9_there 4 (some .int) :: io_tb) (io_rm 2) (va_Pc [.ref (ad 110), .int p1, .int p2] (io_W D ca ad A σ)) (va_Qi post (io_W D ca ad A) A) 0 0 A := by
  refine Met.ofW (cc := cX9_there) (maxL := 4) (ret := (some .int)) (by decide) rfl ?_
  intro p e s m args below meth c s₁ Bd hml hv
  obtain ⟨rfl, hW0⟩ := hv
  have Z := io_Z.start hW0
  have B : CallFix p m c cX9_there 4 s _ io_tb RX9 := ⟨Bd.exec, Bd.bytes, hml, findClass_of_methodNamed Bd.named, fun w hw => atoms_spec (ws := (.code yX9_there cX9_there 4 (some .int) :: io_tb)) Bd.pre w (List.mem_cons_of_mem _ hw)⟩
  have hr := Bd.returns
  have hlk := Bd.notSynchronized
  have hl := lv_entry ([.ref (ad 110), .int p1, .int p2]) (n := 4) (Nat.le_of_ble_eq_true rfl)
  rw [lg_entry_eq]
  generalize (lg_sl ([.ref (ad 110), .int p1, .int p2]) ++ List.replicate (4 - (lg_sl ([.ref (ad 110), .int p1, .int p2])).length) Slot.unset).toArray = ls at hl ⊢
  have hl : lv_has ls 4 [(0, .ref (ad 110)), (1, .int p1), (2, .int p2)] := hl
  show W p l e (io_rm 2) s m _ below meth c s.heap [] 0 0 _ (F0 m 0 ls [])
  have JN28 : ∀ (σ : io_M) (x1 : Int32) (x2 : Int32) (y0 : Int32), wj_X9_there_28 σ x1 x2 y0 post → ∀ (H : Heap) (locs : List Loc), io_Z D ca ad A s H locs σ → ∀ ls : Array Slot, lv_has ls 4 [(0, .ref (ad 110)), (1, .int x1), (2, .int x2)] → W p l e (io_rm 2) s m ([.ref (ad 110), .int p1, .int p2] : List Value).toArray below meth c H locs 0 0 (MQ below (va_Qi post (io_W D ca ad A) A) ([.ref (ad 110), .int p1, .int p2] : List Value).toArray s 0 0 A) (F0 m 28 ls [.int y0]) := by
    intro σ x1 x2 y0 hw H locs Z ls hl
    unfold wj_X9_there_28 at hw
    refine lv_istore_n (lv' := [(3, .int y0), (0, .ref (ad 110)), (1, .int x1), (2, .int x2)]) B.1 B.2.1 dX9_there_28 rfl hl (by decide) rfl (fun ls hl => ?_)
    refine lv_iload_n B.1 B.2.1 dX9_there_29 rfl (lv_at hl 3 rfl) ?_
    refine lv_if_eq (tgt := 44) B.1 B.2.1 dX9_there_30 (by decide) (fun k101 => ?_) (fun k101 => ?_)
    · have hw := hw.1 k101
      refine lv_aload_n B.1 B.2.1 dX9_there_44 rfl (lv_at hl 1 rfl) ?_
      refine io_g_9_0 B Z dX9_there_45 ?_
      refine lv_iload_n B.1 B.2.1 dX9_there_48 rfl (lv_at hl 2 rfl) ?_
      refine io_call_v Z (io_runV (ci := 1) (k := 88) [.int x1] [] B Z (io_c_X1_remove l D ca ad A _ x1 _ hw) io_k_9_81 (io_hR (by decide) (by decide)) rfl (by decide) (io_e_88 _) rfl hl.1 (Nat.le_of_ble_eq_true rfl) dX9_there_49 ⟨Nat.le_refl _, Nat.le_refl _⟩) (fun s103 H locs hw Z => ?_)
      refine lv_iload_n B.1 B.2.1 dX9_there_52 rfl (lv_at hl 0 rfl) ?_
      exact io_ret_i B Z hr hlk hw dX9_there_53
    · have hw := hw.2 k101
      refine lv_aload_n B.1 B.2.1 dX9_there_33 rfl (lv_at hl 1 rfl) ?_
      refine io_g_9_0 B Z dX9_there_34 ?_
      refine lv_iload_n B.1 B.2.1 dX9_there_37 rfl (lv_at hl 2 rfl) ?_
      refine io_call_v Z (io_runV (ci := 1) (k := 88) [.int x1] [] B Z (io_c_X1_create l D ca ad A _ x1 _ hw) io_k_9_77 (io_hR (by decide) (by decide)) rfl (by decide) (io_e_88 _) rfl hl.1 (Nat.le_of_ble_eq_true rfl) dX9_there_38 ⟨Nat.le_refl _, Nat.le_refl _⟩) (fun s105 H locs hw Z => ?_)
      refine lv_goto (tgt := 52) B.1 B.2.1 dX9_there_41 (by decide) ?_
      refine lv_iload_n B.1 B.2.1 dX9_there_52 rfl (lv_at hl 0 rfl) ?_
      exact io_ret_i B Z hr hlk hw dX9_there_53
  unfold wp_X9_there at hw
  refine lv_iload_n B.1 B.2.1 dX9_there_0 rfl (lv_at hl 1 rfl) ?_
  refine lv_bipush (v := 8) B.1 B.2.1 dX9_there_1 (by decide) ?_
  refine io_call_i Z (io_runS [.int p1, .int 8] [] B Z (io_c_X9_within l D ca ad A _ p1 8 _ hw) io_k_9_62 (io_hR (by decide) (by decide)) rfl hl.1 (Nat.le_of_ble_eq_true rfl) dX9_there_3 ⟨Nat.le_refl _, Nat.le_refl _⟩) (fun r2 s3 H locs hw Z => ?_)
  obtain ⟨b4, hw⟩ := hw
  refine lv_if_ne (tgt := 12) B.1 B.2.1 dX9_there_6 (by decide) (fun k5 => ?_) (fun k5 => ?_)
  · have hw := hw.2 k5
    refine lv_aload_n B.1 B.2.1 dX9_there_12 rfl (lv_at hl 0 rfl) ?_
    refine io_g_9_0 B Z dX9_there_13 ?_
    refine lv_iload_n B.1 B.2.1 dX9_there_16 rfl (lv_at hl 1 rfl) ?_
    refine io_call_i Z (io_runV (ci := 1) (k := 88) [.int p1] [] B Z (io_c_X1_isThere l D ca ad A _ p1 _ hw) io_k_9_73 (io_hR (by decide) (by decide)) rfl (by decide) (io_e_88 _) rfl hl.1 (Nat.le_of_ble_eq_true rfl) dX9_there_17 ⟨Nat.le_refl _, Nat.le_refl _⟩) (fun r6 s7 H locs hw Z => ?_)
    obtain ⟨b8, hw⟩ := hw
    refine lv_if_eq (tgt := 27) B.1 B.2.1 dX9_there_20 (by decide) (fun k9 => ?_) (fun k9 => ?_)
    · have hw := hw.1 k9
      refine lv_iconst (v := 0) B.1 B.2.1 dX9_there_27 (by decide) ?_
      exact JN28 _ p1 p2 0 hw _ _ Z _ (lv_sub (l' := [(0, .ref (ad 110)), (1, .int p1), (2, .int p2)]) hl [0, 1, 2] rfl)
    · have hw := hw.2 k9
      refine lv_iconst (v := 1) B.1 B.2.1 dX9_there_23 (by decide) ?_
      refine lv_goto (tgt := 28) B.1 B.2.1 dX9_there_24 (by decide) ?_
      exact JN28 _ p1 p2 1 hw _ _ Z _ (lv_sub (l' := [(0, .ref (ad 110)), (1, .int p1), (2, .int p2)]) hl [0, 1, 2] rfl)
  · have hw := hw.1 k5
    refine lv_bipush (v := (-2)) B.1 B.2.1 dX9_there_9 (by decide) ?_
    exact io_ret_i B Z hr hlk hw dX9_there_11
def wp_X9_permit (σ : io_M) (p1 : Int32) (p2 : Int32) (post : Int32 → io_M → Prop) : Prop := (wp_X9_within σ p1 8 (fun r2 s3 => ((r2 = 0 → post (-2) s3) ∧ (¬ (r2 = 0) → (wp_X9_within s3 p2 4 (fun r6 s7 => ((r6 = 0 → post (-2) s7) ∧ (¬ (r6 = 0) → (wp_X1_changePermits s7 p1 p2 (fun r10 s11 => post r10 s11))))))))))
set_option maxHeartbeats 4000000 in
set_option maxRecDepth 100000 in
theorem io_c_X9_permit (l : Launch) (D : va_G) (ca : Nat → ClassId) (ad : Nat → Nat) (A : Nat → Prop) (σ : io_M) (p1 : Int32) (p2 : Int32) (post : Int32 → io_M → Prop) (hw : wp_X9_permit σ p1 p2 post) : Met l yX9_permit (.code yX9_permit cX9_permit 3 (some .int) :: io_tb) (io_rm 1) (va_Pc [.ref (ad 110), .int p1, .int p2] (io_W D ca ad A σ)) (va_Qi post (io_W D ca ad A) A) 0 0 A := by
  refine Met.ofW (cc := cX9_permit) (maxL := 3) (ret := (some .int)) (by decide) rfl ?_
  intro p e s m args below meth c s₁ Bd hml hv
  obtain ⟨rfl, hW0⟩ := hv
  have Z := io_Z.start hW0
  have B : CallFix p m c cX9_permit 3 s _ io_tb RX9 := ⟨Bd.exec, Bd.bytes, hml, findClass_of_methodNamed Bd.named, fun w hw => atoms_spec (ws := (.code yX9_permit cX9_permit 3 (some .int) :: io_tb)) Bd.pre w (List.mem_cons_of_mem _ hw)⟩
  have hr := Bd.returns
  have hlk := Bd.notSynchronized
  have hl := lv_entry ([.ref (ad 110), .int p1, .int p2]) (n := 3) (Nat.le_of_ble_eq_true rfl)
  rw [lg_entry_eq]
  generalize (lg_sl ([.ref (ad 110), .int p1, .int p2]) ++ List.replicate (3 - (lg_sl ([.ref (ad 110), .int p1, .int p2])).length) Slot.unset).toArray = ls at hl ⊢
  have hl : lv_has ls 3 [(0, .ref (ad 110)), (1, .int p1), (2, .int p2)] := hl
  show W p l e (io_rm 1) s m _ below meth c s.heap [] 0 0 _ (F0 m 0 ls [])
  unfold wp_X9_permit at hw
  refine lv_iload_n B.1 B.2.1 dX9_permit_0 rfl (lv_at hl 1 rfl) ?_
  refine lv_bipush (v := 8) B.1 B.2.1 dX9_permit_1 (by decide) ?_
  refine io_call_i Z (io_runS [.int p1, .int 8] [] B Z (io_c_X9_within l D ca ad A _ p1 8 _ hw) io_k_9_62 (io_hR (by decide) (by decide)) rfl hl.1 (Nat.le_of_ble_eq_true rfl) dX9_permit_3 ⟨Nat.le_refl _, Nat.le_refl _⟩) (fun r2 s3 H locs hw Z => ?_)
  obtain ⟨b4, hw⟩ := hw
  refine lv_if_eq (tgt := 17) B.1 B.2.1 dX9_permit_6 (by decide) (fun k5 => ?_) (fun k5 => ?_)
  · have hw := hw.1 k5
    refine lv_bipush (v := (-2)) B.1 B.2.1 dX9_permit_17 (by decide) ?_
    exact io_ret_i B Z hr hlk hw dX9_permit_19
  · have hw := hw.2 k5
    refine lv_iload_n B.1 B.2.1 dX9_permit_9 rfl (lv_at hl 2 rfl) ?_
    refine lv_iconst (v := 4) B.1 B.2.1 dX9_permit_10 (by decide) ?_
    refine io_call_i Z (io_runS [.int p2, .int 4] [] B Z (io_c_X9_within l D ca ad A _ p2 4 _ hw) io_k_9_62 (io_hR (by decide) (by decide)) rfl hl.1 (Nat.le_of_ble_eq_true rfl) dX9_permit_11 ⟨Nat.le_refl _, Nat.le_refl _⟩) (fun r6 s7 H locs hw Z => ?_)
    obtain ⟨b8, hw⟩ := hw
    refine lv_if_ne (tgt := 20) B.1 B.2.1 dX9_permit_14 (by decide) (fun k9 => ?_) (fun k9 => ?_)
    · have hw := hw.2 k9
      refine lv_aload_n B.1 B.2.1 dX9_permit_20 rfl (lv_at hl 0 rfl) ?_
      refine io_g_9_0 B Z dX9_permit_21 ?_
      refine lv_iload_n B.1 B.2.1 dX9_permit_24 rfl (lv_at hl 1 rfl) ?_
      refine lv_iload_n B.1 B.2.1 dX9_permit_25 rfl (lv_at hl 2 rfl) ?_
      refine io_call_i Z (io_runV (ci := 1) (k := 88) [.int p1, .int p2] [] B Z (io_c_X1_changePermits l D ca ad A _ p1 p2 _ hw) io_k_9_84 (io_hR (by decide) (by decide)) rfl (by decide) (io_e_88 _) rfl hl.1 (Nat.le_of_ble_eq_true rfl) dX9_permit_26 ⟨Nat.le_refl _, Nat.le_refl _⟩) (fun r10 s11 H locs hw Z => ?_)
      exact io_ret_i B Z hr hlk hw dX9_permit_29
    · have hw := hw.1 k9
      refine lv_bipush (v := (-2)) B.1 B.2.1 dX9_permit_17 (by decide) ?_
      exact io_ret_i B Z hr hlk hw dX9_permit_19
def wp_X9_input (σ : io_M) (p1 : Int32) (post : Int32 → io_M → Prop) : Prop := (wp_X9_within σ p1 256 (fun r2 s3 => ((r2 = 0 → post (-2) s3) ∧ (¬ (r2 = 0) → (wp_X0_supply s3 p1 (fun r6 s7 => ((r6 = 0 → post (-3) s7) ∧ (¬ (r6 = 0) → (wp_X0_left s7 (fun r10 s11 => post r10 s11))))))))))
set_option maxHeartbeats 4000000 in
set_option maxRecDepth 100000 in
theorem io_c_X9_input (l : Launch) (D : va_G) (ca : Nat → ClassId) (ad : Nat → Nat) (A : Nat → Prop) (σ : io_M) (p1 : Int32) (post : Int32 → io_M → Prop) (hw : wp_X9_input σ p1 post) : Met l yX9_input (.code yX9_input cX9_input 2 (some .int) :: io_tb) (io_rm 1) (va_Pc [.ref (ad 110), .int p1] (io_W D ca ad A σ)) (va_Qi post (io_W D ca ad A) A) 0 0 A := by
  refine Met.ofW (cc := cX9_input) (maxL := 2) (ret := (some .int)) (by decide) rfl ?_
  intro p e s m args below meth c s₁ Bd hml hv
  obtain ⟨rfl, hW0⟩ := hv
  have Z := io_Z.start hW0
  have B : CallFix p m c cX9_input 2 s _ io_tb RX9 := ⟨Bd.exec, Bd.bytes, hml, findClass_of_methodNamed Bd.named, fun w hw => atoms_spec (ws := (.code yX9_input cX9_input 2 (some .int) :: io_tb)) Bd.pre w (List.mem_cons_of_mem _ hw)⟩
  have hr := Bd.returns
  have hlk := Bd.notSynchronized
  have hl := lv_entry ([.ref (ad 110), .int p1]) (n := 2) (Nat.le_of_ble_eq_true rfl)
  rw [lg_entry_eq]
  generalize (lg_sl ([.ref (ad 110), .int p1]) ++ List.replicate (2 - (lg_sl ([.ref (ad 110), .int p1])).length) Slot.unset).toArray = ls at hl ⊢
  have hl : lv_has ls 2 [(0, .ref (ad 110)), (1, .int p1)] := hl
  show W p l e (io_rm 1) s m _ below meth c s.heap [] 0 0 _ (F0 m 0 ls [])
  unfold wp_X9_input at hw
  refine lv_iload_n B.1 B.2.1 dX9_input_0 rfl (lv_at hl 1 rfl) ?_
  refine lv_sipush (v := 256) B.1 B.2.1 dX9_input_1 (by decide) ?_
  refine io_call_i Z (io_runS [.int p1, .int 256] [] B Z (io_c_X9_within l D ca ad A _ p1 256 _ hw) io_k_9_62 (io_hR (by decide) (by decide)) rfl hl.1 (Nat.le_of_ble_eq_true rfl) dX9_input_4 ⟨Nat.le_refl _, Nat.le_refl _⟩) (fun r2 s3 H locs hw Z => ?_)
  obtain ⟨b4, hw⟩ := hw
  refine lv_if_ne (tgt := 13) B.1 B.2.1 dX9_input_7 (by decide) (fun k5 => ?_) (fun k5 => ?_)
  · have hw := hw.2 k5
    refine lv_aload_n B.1 B.2.1 dX9_input_13 rfl (lv_at hl 0 rfl) ?_
    refine io_g_9_1 B Z dX9_input_14 ?_
    refine lv_iload_n B.1 B.2.1 dX9_input_17 rfl (lv_at hl 1 rfl) ?_
    refine io_call_i Z (io_runV (ci := 0) (k := 93) [.int p1] [] B Z (io_c_X0_supply l D ca ad A _ p1 _ hw) io_k_9_88 (io_hR (by decide) (by decide)) rfl (by decide) (io_e_93 _) rfl hl.1 (Nat.le_of_ble_eq_true rfl) dX9_input_18 ⟨Nat.le_refl _, Nat.le_refl _⟩) (fun r6 s7 H locs hw Z => ?_)
    obtain ⟨b8, hw⟩ := hw
    refine lv_if_eq (tgt := 34) B.1 B.2.1 dX9_input_21 (by decide) (fun k9 => ?_) (fun k9 => ?_)
    · have hw := hw.1 k9
      refine lv_bipush (v := (-3)) B.1 B.2.1 dX9_input_34 (by decide) ?_
      exact io_ret_i B Z hr hlk hw dX9_input_36
    · have hw := hw.2 k9
      refine lv_aload_n B.1 B.2.1 dX9_input_24 rfl (lv_at hl 0 rfl) ?_
      refine io_g_9_1 B Z dX9_input_25 ?_
      refine io_call_i Z (io_runV (ci := 0) (k := 93) [] [] B Z (io_c_X0_left l D ca ad A _ _ hw) io_k_9_91 (io_hR (by decide) (by decide)) rfl (by decide) (io_e_93 _) rfl hl.1 (Nat.le_of_ble_eq_true rfl) dX9_input_28 ⟨Nat.le_refl _, Nat.le_refl _⟩) (fun r10 s11 H locs hw Z => ?_)
      refine lv_goto (tgt := 36) B.1 B.2.1 dX9_input_31 (by decide) ?_
      exact io_ret_i B Z hr hlk hw dX9_input_36
  · have hw := hw.1 k5
    refine lv_bipush (v := (-2)) B.1 B.2.1 dX9_input_10 (by decide) ?_
    exact io_ret_i B Z hr hlk hw dX9_input_12
def wp_X9_node (σ : io_M) (p1 : Int32) (p2 : Int32) (p3 : Int32) (p4 : Int32) (post : Int32 → io_M → Prop) : Prop := (wp_X9_within σ p1 29 (fun r2 s3 => ((r2 = 0 → post (-2) s3) ∧ (¬ (r2 = 0) → (wp_X7_allows s3 p1 p2 p3 p4 (fun r6 s7 => ((r6 = 0 → post (-2) s7) ∧ (¬ (r6 = 0) → (wp_X7_add s7 p1 p2 p3 p4 (fun r10 s11 => post r10 s11))))))))))
set_option maxHeartbeats 4000000 in
set_option maxRecDepth 100000 in
theorem io_c_X9_node (l : Launch) (D : va_G) (ca : Nat → ClassId) (ad : Nat → Nat) (A : Nat → Prop) (σ : io_M) (p1 : Int32) (p2 : Int32) (p3 : Int32) (p4 : Int32) (post : Int32 → io_M → Prop) (hw : wp_X9_node σ p1 p2 p3 p4 post) : Met l yX9_node (.code yX9_node cX9_node 5 (some .int) :: io_tb) (io_rm 3) (va_Pc [.ref (ad 110), .int p1, .int p2, .int p3, .int p4] (io_W D ca ad A σ)) (va_Qi post (io_W D ca ad A) A) 0 0 A := by
  refine Met.ofW (cc := cX9_node) (maxL := 5) (ret := (some .int)) (by decide) rfl ?_
  intro p e s m args below meth c s₁ Bd hml hv
  obtain ⟨rfl, hW0⟩ := hv
  have Z := io_Z.start hW0
  have B : CallFix p m c cX9_node 5 s _ io_tb RX9 := ⟨Bd.exec, Bd.bytes, hml, findClass_of_methodNamed Bd.named, fun w hw => atoms_spec (ws := (.code yX9_node cX9_node 5 (some .int) :: io_tb)) Bd.pre w (List.mem_cons_of_mem _ hw)⟩
  have hr := Bd.returns
  have hlk := Bd.notSynchronized
  have hl := lv_entry ([.ref (ad 110), .int p1, .int p2, .int p3, .int p4]) (n := 5) (Nat.le_of_ble_eq_true rfl)
  rw [lg_entry_eq]
  generalize (lg_sl ([.ref (ad 110), .int p1, .int p2, .int p3, .int p4]) ++ List.replicate (5 - (lg_sl ([.ref (ad 110), .int p1, .int p2, .int p3, .int p4])).length) Slot.unset).toArray = ls at hl ⊢
  have hl : lv_has ls 5 [(0, .ref (ad 110)), (1, .int p1), (2, .int p2), (3, .int p3), (4, .int p4)] := hl
  show W p l e (io_rm 3) s m _ below meth c s.heap [] 0 0 _ (F0 m 0 ls [])
  unfold wp_X9_node at hw
  refine lv_iload_n B.1 B.2.1 dX9_node_0 rfl (lv_at hl 1 rfl) ?_
  refine lv_bipush (v := 29) B.1 B.2.1 dX9_node_1 (by decide) ?_
  refine io_call_i Z (io_runS [.int p1, .int 29] [] B Z (io_c_X9_within l D ca ad A _ p1 29 _ hw) io_k_9_62 (io_hR (by decide) (by decide)) rfl hl.1 (Nat.le_of_ble_eq_true rfl) dX9_node_3 ⟨Nat.le_refl _, Nat.le_refl _⟩) (fun r2 s3 H locs hw Z => ?_)
  obtain ⟨b4, hw⟩ := hw
  refine lv_if_eq (tgt := 24) B.1 B.2.1 dX9_node_6 (by decide) (fun k5 => ?_) (fun k5 => ?_)
  · have hw := hw.1 k5
    refine lv_bipush (v := (-2)) B.1 B.2.1 dX9_node_24 (by decide) ?_
    exact io_ret_i B Z hr hlk hw dX9_node_26
  · have hw := hw.2 k5
    refine lv_aload_n B.1 B.2.1 dX9_node_9 rfl (lv_at hl 0 rfl) ?_
    refine io_g_9_2 B Z dX9_node_10 ?_
    refine lv_iload_n B.1 B.2.1 dX9_node_13 rfl (lv_at hl 1 rfl) ?_
    refine lv_iload_n B.1 B.2.1 dX9_node_14 rfl (lv_at hl 2 rfl) ?_
    refine lv_iload_n B.1 B.2.1 dX9_node_15 rfl (lv_at hl 3 rfl) ?_
    refine lv_iload B.1 B.2.1 dX9_node_16 (lv_at hl 4 rfl) ?_
    refine io_call_i Z (io_runV (ci := 7) (k := 96) [.int p1, .int p2, .int p3, .int p4] [] B Z (io_c_X7_allows l D ca ad A _ p1 p2 p3 p4 _ hw) io_k_9_95 (io_hR (by decide) (by decide)) rfl (by decide) (io_e_96 _) rfl hl.1 (Nat.le_of_ble_eq_true rfl) dX9_node_18 ⟨Nat.le_refl _, Nat.le_refl _⟩) (fun r6 s7 H locs hw Z => ?_)
    obtain ⟨b8, hw⟩ := hw
    refine lv_if_ne (tgt := 27) B.1 B.2.1 dX9_node_21 (by decide) (fun k9 => ?_) (fun k9 => ?_)
    · have hw := hw.2 k9
      refine lv_aload_n B.1 B.2.1 dX9_node_27 rfl (lv_at hl 0 rfl) ?_
      refine io_g_9_2 B Z dX9_node_28 ?_
      refine lv_iload_n B.1 B.2.1 dX9_node_31 rfl (lv_at hl 1 rfl) ?_
      refine lv_iload_n B.1 B.2.1 dX9_node_32 rfl (lv_at hl 2 rfl) ?_
      refine lv_iload_n B.1 B.2.1 dX9_node_33 rfl (lv_at hl 3 rfl) ?_
      refine lv_iload B.1 B.2.1 dX9_node_34 (lv_at hl 4 rfl) ?_
      refine io_call_i Z (io_runV (ci := 7) (k := 96) [.int p1, .int p2, .int p3, .int p4] [] B Z (io_c_X7_add l D ca ad A _ p1 p2 p3 p4 _ hw) io_k_9_99 (io_hR (by decide) (by decide)) rfl (by decide) (io_e_96 _) rfl hl.1 (Nat.le_of_ble_eq_true rfl) dX9_node_36 ⟨Nat.le_refl _, Nat.le_refl _⟩) (fun r10 s11 H locs hw Z => ?_)
      exact io_ret_i B Z hr hlk hw dX9_node_39
    · have hw := hw.1 k9
      refine lv_bipush (v := (-2)) B.1 B.2.1 dX9_node_24 (by decide) ?_
      exact io_ret_i B Z hr hlk hw dX9_node_26
def wp_X9_clear (σ : io_M) (post : Int32 → io_M → Prop) : Prop := (wp_X7_length σ (fun r2 s3 => (wp_X7_forget s3 (fun s5 => (wp_X0_forget s5 (fun s7 => post r2 s7))))))
set_option maxHeartbeats 4000000 in
set_option maxRecDepth 100000 in
theorem io_c_X9_clear (l : Launch) (D : va_G) (ca : Nat → ClassId) (ad : Nat → Nat) (A : Nat → Prop) (σ : io_M) (post : Int32 → io_M → Prop) (hw : wp_X9_clear σ post) : Met l yX9_clear (.code yX9_clear cX9_clear 2 (some .int) :: io_tb) (io_rm 1) (va_Pc [.ref (ad 110)] (io_W D ca ad A σ)) (va_Qi post (io_W D ca ad A) A) 0 0 A := by
  refine Met.ofW (cc := cX9_clear) (maxL := 2) (ret := (some .int)) (by decide) rfl ?_
  intro p e s m args below meth c s₁ Bd hml hv
  obtain ⟨rfl, hW0⟩ := hv
  have Z := io_Z.start hW0
  have B : CallFix p m c cX9_clear 2 s _ io_tb RX9 := ⟨Bd.exec, Bd.bytes, hml, findClass_of_methodNamed Bd.named, fun w hw => atoms_spec (ws := (.code yX9_clear cX9_clear 2 (some .int) :: io_tb)) Bd.pre w (List.mem_cons_of_mem _ hw)⟩
  have hr := Bd.returns
  have hlk := Bd.notSynchronized
  have hl := lv_entry ([.ref (ad 110)]) (n := 2) (Nat.le_of_ble_eq_true rfl)
  rw [lg_entry_eq]
  generalize (lg_sl ([.ref (ad 110)]) ++ List.replicate (2 - (lg_sl ([.ref (ad 110)])).length) Slot.unset).toArray = ls at hl ⊢
  have hl : lv_has ls 2 [(0, .ref (ad 110))] := hl
  show W p l e (io_rm 1) s m _ below meth c s.heap [] 0 0 _ (F0 m 0 ls [])
  unfold wp_X9_clear at hw
  refine lv_aload_n B.1 B.2.1 dX9_clear_0 rfl (lv_at hl 0 rfl) ?_
  refine io_g_9_2 B Z dX9_clear_1 ?_
  refine io_call_i Z (io_runV (ci := 7) (k := 96) [] [] B Z (io_c_X7_length l D ca ad A _ _ hw) io_k_9_103 (io_hR (by decide) (by decide)) rfl (by decide) (io_e_96 _) rfl hl.1 (Nat.le_of_ble_eq_true rfl) dX9_clear_4 ⟨Nat.le_refl _, Nat.le_refl _⟩) (fun r2 s3 H locs hw Z => ?_)
  refine lv_istore_n (lv' := [(1, .int r2), (0, .ref (ad 110))]) B.1 B.2.1 dX9_clear_7 rfl hl (by decide) rfl (fun ls hl => ?_)
  refine lv_aload_n B.1 B.2.1 dX9_clear_8 rfl (lv_at hl 1 rfl) ?_
  refine io_g_9_2 B Z dX9_clear_9 ?_
  refine io_call_v Z (io_runV (ci := 7) (k := 96) [] [] B Z (io_c_X7_forget l D ca ad A _ _ hw) io_k_9_106 (io_hR (by decide) (by decide)) rfl (by decide) (io_e_96 _) rfl hl.1 (Nat.le_of_ble_eq_true rfl) dX9_clear_12 ⟨Nat.le_refl _, Nat.le_refl _⟩) (fun s5 H locs hw Z => ?_)
  refine lv_aload_n B.1 B.2.1 dX9_clear_15 rfl (lv_at hl 1 rfl) ?_
  refine io_g_9_1 B Z dX9_clear_16 ?_
  refine io_call_v Z (io_runV (ci := 0) (k := 93) [] [] B Z (io_c_X0_forget l D ca ad A _ _ hw) io_k_9_109 (io_hR (by decide) (by decide)) rfl (by decide) (io_e_93 _) rfl hl.1 (Nat.le_of_ble_eq_true rfl) dX9_clear_19 ⟨Nat.le_refl _, Nat.le_refl _⟩) (fun s7 H locs hw Z => ?_)
  refine lv_iload_n B.1 B.2.1 dX9_clear_22 rfl (lv_at hl 0 rfl) ?_
  exact io_ret_i B Z hr hlk hw dX9_clear_23
def wp_X9_run (σ : io_M) (p1 : Int32) (post : Int32 → io_M → Prop) : Prop := (wp_X7_length σ (fun r2 s3 => (wp_X9_within s3 p1 r2 (fun r4 s5 => ((r4 = 0 → post (-2) s5) ∧ (¬ (r4 = 0) → (wp_X8_perform s5 p1 (fun r8 s9 => post r8 s9))))))))
set_option maxHeartbeats 4000000 in
set_option maxRecDepth 100000 in
theorem io_c_X9_run (l : Launch) (D : va_G) (ca : Nat → ClassId) (ad : Nat → Nat) (A : Nat → Prop) (σ : io_M) (p1 : Int32) (post : Int32 → io_M → Prop) (hw : wp_X9_run σ p1 post) : Met l yX9_run (.code yX9_run cX9_run 2 (some .int) :: io_tb) (io_rm 642) (va_Pc [.ref (ad 110), .int p1] (io_W D ca ad A σ)) (va_Qi post (io_W D ca ad A) A) 0 0 A := by
  refine Met.ofW (cc := cX9_run) (maxL := 2) (ret := (some .int)) (by decide) rfl ?_
  intro p e s m args below meth c s₁ Bd hml hv
  obtain ⟨rfl, hW0⟩ := hv
  have Z := io_Z.start hW0
  have B : CallFix p m c cX9_run 2 s _ io_tb RX9 := ⟨Bd.exec, Bd.bytes, hml, findClass_of_methodNamed Bd.named, fun w hw => atoms_spec (ws := (.code yX9_run cX9_run 2 (some .int) :: io_tb)) Bd.pre w (List.mem_cons_of_mem _ hw)⟩
  have hr := Bd.returns
  have hlk := Bd.notSynchronized
  have hl := lv_entry ([.ref (ad 110), .int p1]) (n := 2) (Nat.le_of_ble_eq_true rfl)
  rw [lg_entry_eq]
  generalize (lg_sl ([.ref (ad 110), .int p1]) ++ List.replicate (2 - (lg_sl ([.ref (ad 110), .int p1])).length) Slot.unset).toArray = ls at hl ⊢
  have hl : lv_has ls 2 [(0, .ref (ad 110)), (1, .int p1)] := hl
  show W p l e (io_rm 642) s m _ below meth c s.heap [] 0 0 _ (F0 m 0 ls [])
  unfold wp_X9_run at hw
  refine lv_iload_n B.1 B.2.1 dX9_run_0 rfl (lv_at hl 1 rfl) ?_
  refine lv_aload_n B.1 B.2.1 dX9_run_1 rfl (lv_at hl 0 rfl) ?_
  refine io_g_9_2 B Z dX9_run_2 ?_
  refine io_call_i Z (io_runV (ci := 7) (k := 96) [] [.int p1] B Z (io_c_X7_length l D ca ad A _ _ hw) io_k_9_103 (io_hR (by decide) (by decide)) rfl (by decide) (io_e_96 _) rfl hl.1 (Nat.le_of_ble_eq_true rfl) dX9_run_5 ⟨Nat.le_refl _, Nat.le_refl _⟩) (fun r2 s3 H locs hw Z => ?_)
  refine io_call_i Z (io_runS [.int p1, .int r2] [] B Z (io_c_X9_within l D ca ad A _ p1 r2 _ hw) io_k_9_62 (io_hR (by decide) (by decide)) rfl hl.1 (Nat.le_of_ble_eq_true rfl) dX9_run_8 ⟨Nat.le_refl _, Nat.le_refl _⟩) (fun r4 s5 H locs hw Z => ?_)
  obtain ⟨b6, hw⟩ := hw
  refine lv_if_ne (tgt := 17) B.1 B.2.1 dX9_run_11 (by decide) (fun k7 => ?_) (fun k7 => ?_)
  · have hw := hw.2 k7
    refine lv_aload_n B.1 B.2.1 dX9_run_17 rfl (lv_at hl 0 rfl) ?_
    refine io_g_9_6 B Z dX9_run_18 ?_
    refine lv_iload_n B.1 B.2.1 dX9_run_21 rfl (lv_at hl 1 rfl) ?_
    refine io_call_i Z (io_runV (ci := 8) (k := 107) [.int p1] [] B Z (io_c_X8_perform l D ca ad A _ p1 _ hw) io_k_9_110 (io_hR (by decide) (by decide)) rfl (by decide) (io_e_107 _) rfl hl.1 (Nat.le_of_ble_eq_true rfl) dX9_run_22 ⟨Nat.le_refl _, Nat.le_refl _⟩) (fun r8 s9 H locs hw Z => ?_)
    exact io_ret_i B Z hr hlk hw dX9_run_25
  · have hw := hw.1 k7
    refine lv_bipush (v := (-2)) B.1 B.2.1 dX9_run_14 (by decide) ?_
    exact io_ret_i B Z hr hlk hw dX9_run_16
def wp_X9_value (σ : io_M) (post : Int32 → io_M → Prop) : Prop := (wp_X8_outcome σ (fun r2 s3 => post r2 s3))
set_option maxHeartbeats 4000000 in
set_option maxRecDepth 100000 in
theorem io_c_X9_value (l : Launch) (D : va_G) (ca : Nat → ClassId) (ad : Nat → Nat) (A : Nat → Prop) (σ : io_M) (post : Int32 → io_M → Prop) (hw : wp_X9_value σ post) : Met l yX9_value (.code yX9_value cX9_value 1 (some .int) :: io_tb) (io_rm 1) (va_Pc [.ref (ad 110)] (io_W D ca ad A σ)) (va_Qi post (io_W D ca ad A) A) 0 0 A := by
  refine Met.ofW (cc := cX9_value) (maxL := 1) (ret := (some .int)) (by decide) rfl ?_
  intro p e s m args below meth c s₁ Bd hml hv
  obtain ⟨rfl, hW0⟩ := hv
  have Z := io_Z.start hW0
  have B : CallFix p m c cX9_value 1 s _ io_tb RX9 := ⟨Bd.exec, Bd.bytes, hml, findClass_of_methodNamed Bd.named, fun w hw => atoms_spec (ws := (.code yX9_value cX9_value 1 (some .int) :: io_tb)) Bd.pre w (List.mem_cons_of_mem _ hw)⟩
  have hr := Bd.returns
  have hlk := Bd.notSynchronized
  have hl := lv_entry ([.ref (ad 110)]) (n := 1) (Nat.le_of_ble_eq_true rfl)
  rw [lg_entry_eq]
  generalize (lg_sl ([.ref (ad 110)]) ++ List.replicate (1 - (lg_sl ([.ref (ad 110)])).length) Slot.unset).toArray = ls at hl ⊢
  have hl : lv_has ls 1 [(0, .ref (ad 110))] := hl
  show W p l e (io_rm 1) s m _ below meth c s.heap [] 0 0 _ (F0 m 0 ls [])
  unfold wp_X9_value at hw
  refine lv_aload_n B.1 B.2.1 dX9_value_0 rfl (lv_at hl 0 rfl) ?_
  refine io_g_9_6 B Z dX9_value_1 ?_
  refine io_call_i Z (io_runV (ci := 8) (k := 107) [] [] B Z (io_c_X8_outcome l D ca ad A _ _ hw) io_k_9_113 (io_hR (by decide) (by decide)) rfl (by decide) (io_e_107 _) rfl hl.1 (Nat.le_of_ble_eq_true rfl) dX9_value_4 ⟨Nat.le_refl _, Nat.le_refl _⟩) (fun r2 s3 H locs hw Z => ?_)
  exact io_ret_i B Z hr hlk hw dX9_value_7
def wp_X9_where (σ : io_M) (post : Int32 → io_M → Prop) : Prop := (wp_X8_failedNode σ (fun r2 s3 => post r2 s3))
set_option maxHeartbeats 4000000 in
set_option maxRecDepth 100000 in
theorem io_c_X9_where (l : Launch) (D : va_G) (ca : Nat → ClassId) (ad : Nat → Nat) (A : Nat → Prop) (σ : io_M) (post : Int32 → io_M → Prop) (hw : wp_X9_where σ post) : Met l yX9_where (.code yX9_where cX9_where 1 (some .int) :: io_tb) (io_rm 1) (va_Pc [.ref (ad 110)] (io_W D ca ad A σ)) (va_Qi post (io_W D ca ad A) A) 0 0 A := by
  refine Met.ofW (cc := cX9_where) (maxL := 1) (ret := (some .int)) (by decide) rfl ?_
  intro p e s m args below meth c s₁ Bd hml hv
  obtain ⟨rfl, hW0⟩ := hv
  have Z := io_Z.start hW0
  have B : CallFix p m c cX9_where 1 s _ io_tb RX9 := ⟨Bd.exec, Bd.bytes, hml, findClass_of_methodNamed Bd.named, fun w hw => atoms_spec (ws := (.code yX9_where cX9_where 1 (some .int) :: io_tb)) Bd.pre w (List.mem_cons_of_mem _ hw)⟩
  have hr := Bd.returns
  have hlk := Bd.notSynchronized
  have hl := lv_entry ([.ref (ad 110)]) (n := 1) (Nat.le_of_ble_eq_true rfl)
  rw [lg_entry_eq]
  generalize (lg_sl ([.ref (ad 110)]) ++ List.replicate (1 - (lg_sl ([.ref (ad 110)])).length) Slot.unset).toArray = ls at hl ⊢
  have hl : lv_has ls 1 [(0, .ref (ad 110))] := hl
  show W p l e (io_rm 1) s m _ below meth c s.heap [] 0 0 _ (F0 m 0 ls [])
  unfold wp_X9_where at hw
  refine lv_aload_n B.1 B.2.1 dX9_where_0 rfl (lv_at hl 0 rfl) ?_
  refine io_g_9_6 B Z dX9_where_1 ?_
  refine io_call_i Z (io_runV (ci := 8) (k := 107) [] [] B Z (io_c_X8_failedNode l D ca ad A _ _ hw) io_k_9_116 (io_hR (by decide) (by decide)) rfl (by decide) (io_e_107 _) rfl hl.1 (Nat.le_of_ble_eq_true rfl) dX9_where_4 ⟨Nat.le_refl _, Nat.le_refl _⟩) (fun r2 s3 H locs hw Z => ?_)
  exact io_ret_i B Z hr hlk hw dX9_where_7
def wp_X9_worked (σ : io_M) (post : Int32 → io_M → Prop) : Prop := (wp_X8_steps σ (fun r2 s3 => post r2 s3))
set_option maxHeartbeats 4000000 in
set_option maxRecDepth 100000 in
theorem io_c_X9_worked (l : Launch) (D : va_G) (ca : Nat → ClassId) (ad : Nat → Nat) (A : Nat → Prop) (σ : io_M) (post : Int32 → io_M → Prop) (hw : wp_X9_worked σ post) : Met l yX9_worked (.code yX9_worked cX9_worked 1 (some .int) :: io_tb) (io_rm 1) (va_Pc [.ref (ad 110)] (io_W D ca ad A σ)) (va_Qi post (io_W D ca ad A) A) 0 0 A := by
  refine Met.ofW (cc := cX9_worked) (maxL := 1) (ret := (some .int)) (by decide) rfl ?_
  intro p e s m args below meth c s₁ Bd hml hv
  obtain ⟨rfl, hW0⟩ := hv
  have Z := io_Z.start hW0
  have B : CallFix p m c cX9_worked 1 s _ io_tb RX9 := ⟨Bd.exec, Bd.bytes, hml, findClass_of_methodNamed Bd.named, fun w hw => atoms_spec (ws := (.code yX9_worked cX9_worked 1 (some .int) :: io_tb)) Bd.pre w (List.mem_cons_of_mem _ hw)⟩
  have hr := Bd.returns
  have hlk := Bd.notSynchronized
  have hl := lv_entry ([.ref (ad 110)]) (n := 1) (Nat.le_of_ble_eq_true rfl)
  rw [lg_entry_eq]
  generalize (lg_sl ([.ref (ad 110)]) ++ List.replicate (1 - (lg_sl ([.ref (ad 110)])).length) Slot.unset).toArray = ls at hl ⊢
  have hl : lv_has ls 1 [(0, .ref (ad 110))] := hl
  show W p l e (io_rm 1) s m _ below meth c s.heap [] 0 0 _ (F0 m 0 ls [])
  unfold wp_X9_worked at hw
  refine lv_aload_n B.1 B.2.1 dX9_worked_0 rfl (lv_at hl 0 rfl) ?_
  refine io_g_9_6 B Z dX9_worked_1 ?_
  refine io_call_i Z (io_runV (ci := 8) (k := 107) [] [] B Z (io_c_X8_steps l D ca ad A _ _ hw) io_k_9_119 (io_hR (by decide) (by decide)) rfl (by decide) (io_e_107 _) rfl hl.1 (Nat.le_of_ble_eq_true rfl) dX9_worked_4 ⟨Nat.le_refl _, Nat.le_refl _⟩) (fun r2 s3 H locs hw Z => ?_)
  exact io_ret_i B Z hr hlk hw dX9_worked_7
def wp_X9_order (σ : io_M) (p1 : Int32) (post : Int32 → io_M → Prop) : Prop := (wp_X4_entry σ p1 (fun r2 s3 => post r2 s3))
set_option maxHeartbeats 4000000 in
set_option maxRecDepth 100000 in
theorem io_c_X9_order (l : Launch) (D : va_G) (ca : Nat → ClassId) (ad : Nat → Nat) (A : Nat → Prop) (σ : io_M) (p1 : Int32) (post : Int32 → io_M → Prop) (hw : wp_X9_order σ p1 post) : Met l yX9_order (.code yX9_order cX9_order 2 (some .int) :: io_tb) (io_rm 2) (va_Pc [.ref (ad 110), .int p1] (io_W D ca ad A σ)) (va_Qi post (io_W D ca ad A) A) 0 0 A := by
  refine Met.ofW (cc := cX9_order) (maxL := 2) (ret := (some .int)) (by decide) rfl ?_
  intro p e s m args below meth c s₁ Bd hml hv
  obtain ⟨rfl, hW0⟩ := hv
  have Z := io_Z.start hW0
  have B : CallFix p m c cX9_order 2 s _ io_tb RX9 := ⟨Bd.exec, Bd.bytes, hml, findClass_of_methodNamed Bd.named, fun w hw => atoms_spec (ws := (.code yX9_order cX9_order 2 (some .int) :: io_tb)) Bd.pre w (List.mem_cons_of_mem _ hw)⟩
  have hr := Bd.returns
  have hlk := Bd.notSynchronized
  have hl := lv_entry ([.ref (ad 110), .int p1]) (n := 2) (Nat.le_of_ble_eq_true rfl)
  rw [lg_entry_eq]
  generalize (lg_sl ([.ref (ad 110), .int p1]) ++ List.replicate (2 - (lg_sl ([.ref (ad 110), .int p1])).length) Slot.unset).toArray = ls at hl ⊢
  have hl : lv_has ls 2 [(0, .ref (ad 110)), (1, .int p1)] := hl
  show W p l e (io_rm 2) s m _ below meth c s.heap [] 0 0 _ (F0 m 0 ls [])
  unfold wp_X9_order at hw
  refine lv_aload_n B.1 B.2.1 dX9_order_0 rfl (lv_at hl 0 rfl) ?_
  refine io_g_9_5 B Z dX9_order_1 ?_
  refine lv_iload_n B.1 B.2.1 dX9_order_4 rfl (lv_at hl 1 rfl) ?_
  refine io_call_i Z (io_runV (ci := 4) (k := 105) [.int p1] [] B Z (io_c_X4_entry l D ca ad A _ p1 _ hw) io_k_9_122 (io_hR (by decide) (by decide)) rfl (by decide) (io_e_105 _) rfl hl.1 (Nat.le_of_ble_eq_true rfl) dX9_order_5 ⟨Nat.le_refl _, Nat.le_refl _⟩) (fun r2 s3 H locs hw Z => ?_)
  exact io_ret_i B Z hr hlk hw dX9_order_8
def wp_X9_handle (σ : io_M) (p1 : Int32) (p2 : Int32) (post : Int32 → io_M → Prop) : Prop := (wp_X9_within σ p2 6 (fun r2 s3 => ((r2 = 0 → post (-2) s3) ∧ (¬ (r2 = 0) → (wp_X3_pick s3 p1 (fun o8 s7 => (o8 = none → post (-1) s7) ∧ (∀ i10, o8 = some i10 → (wp_X2_fact s7 i10 p2 (fun r11 s12 => post r11 s12)))))))))
set_option maxHeartbeats 4000000 in
set_option maxRecDepth 100000 in
theorem io_c_X9_handle (l : Launch) (D : va_G) (ca : Nat → ClassId) (ad : Nat → Nat) (A : Nat → Prop) (σ : io_M) (p1 : Int32) (p2 : Int32) (post : Int32 → io_M → Prop) (hw : wp_X9_handle σ p1 p2 post) : Met l yX9_handle (.code yX9_handle cX9_handle 4 (some .int) :: io_tb) (io_rm 2) (va_Pc [.ref (ad 110), .int p1, .int p2] (io_W D ca ad A σ)) (va_Qi post (io_W D ca ad A) A) 0 0 A := by
  refine Met.ofW (cc := cX9_handle) (maxL := 4) (ret := (some .int)) (by decide) rfl ?_
  intro p e s m args below meth c s₁ Bd hml hv
  obtain ⟨rfl, hW0⟩ := hv
  have Z := io_Z.start hW0
  have B : CallFix p m c cX9_handle 4 s _ io_tb RX9 := ⟨Bd.exec, Bd.bytes, hml, findClass_of_methodNamed Bd.named, fun w hw => atoms_spec (ws := (.code yX9_handle cX9_handle 4 (some .int) :: io_tb)) Bd.pre w (List.mem_cons_of_mem _ hw)⟩
  have hr := Bd.returns
  have hlk := Bd.notSynchronized
  have hl := lv_entry ([.ref (ad 110), .int p1, .int p2]) (n := 4) (Nat.le_of_ble_eq_true rfl)
  rw [lg_entry_eq]
  generalize (lg_sl ([.ref (ad 110), .int p1, .int p2]) ++ List.replicate (4 - (lg_sl ([.ref (ad 110), .int p1, .int p2])).length) Slot.unset).toArray = ls at hl ⊢
  have hl : lv_has ls 4 [(0, .ref (ad 110)), (1, .int p1), (2, .int p2)] := hl
  show W p l e (io_rm 2) s m _ below meth c s.heap [] 0 0 _ (F0 m 0 ls [])
  unfold wp_X9_handle at hw
  refine lv_iload_n B.1 B.2.1 dX9_handle_0 rfl (lv_at hl 2 rfl) ?_
  refine lv_bipush (v := 6) B.1 B.2.1 dX9_handle_1 (by decide) ?_
  refine io_call_i Z (io_runS [.int p2, .int 6] [] B Z (io_c_X9_within l D ca ad A _ p2 6 _ hw) io_k_9_62 (io_hR (by decide) (by decide)) rfl hl.1 (Nat.le_of_ble_eq_true rfl) dX9_handle_3 ⟨Nat.le_refl _, Nat.le_refl _⟩) (fun r2 s3 H locs hw Z => ?_)
  obtain ⟨b4, hw⟩ := hw
  refine lv_if_ne (tgt := 12) B.1 B.2.1 dX9_handle_6 (by decide) (fun k5 => ?_) (fun k5 => ?_)
  · have hw := hw.2 k5
    refine lv_aload_n B.1 B.2.1 dX9_handle_12 rfl (lv_at hl 0 rfl) ?_
    refine io_g_9_3 B Z dX9_handle_13 ?_
    refine lv_iload_n B.1 B.2.1 dX9_handle_16 rfl (lv_at hl 1 rfl) ?_
    refine io_call_q Z (io_runV (ci := 3) (k := 101) [.int p1] [] B Z (io_c_X3_pick l D ca ad A _ p1 _ hw) io_k_9_127 (io_hR (by decide) (by decide)) rfl (by decide) (io_e_101 _) rfl hl.1 (Nat.le_of_ble_eq_true rfl) dX9_handle_17 ⟨Nat.le_refl _, Nat.le_refl _⟩) (fun r6 s7 H locs hw Z => ?_)
    obtain ⟨o8, e_r6, h9, hw⟩ := hw
    subst e_r6
    rcases o8 with _ | i10
    · have hw := hw.1 rfl
      show W _ _ _ _ _ _ _ _ _ _ _ _ _ _ _ (F0 _ _ _ (Value.null :: _))
      refine lv_astore_nN (lv' := [(3, .null), (0, .ref (ad 110)), (1, .int p1), (2, .int p2)]) B.1 B.2.1 dX9_handle_20 rfl hl (by decide) rfl (fun ls hl => ?_)
      refine lv_aload_nN B.1 B.2.1 dX9_handle_21 rfl (lv_at hl 0 rfl) ?_
      refine lv_ifnonnullN B.1 B.2.1 dX9_handle_22 ?_
      refine lv_iconst (v := (-1)) B.1 B.2.1 dX9_handle_25 (by decide) ?_
      refine lv_goto (tgt := 34) B.1 B.2.1 dX9_handle_26 (by decide) ?_
      exact io_ret_i B Z hr hlk hw dX9_handle_34
    · have hw := hw.2 i10 rfl
      have h9 := h9 _ rfl
      show W _ _ _ _ _ _ _ _ _ _ _ _ _ _ _ (F0 _ _ _ (Value.ref (ad (0 + i10)) :: _))
      rw [Nat.zero_add i10]
      refine lv_astore_n (lv' := [(3, .ref (ad i10)), (0, .ref (ad 110)), (1, .int p1), (2, .int p2)]) B.1 B.2.1 dX9_handle_20 rfl hl (by decide) rfl (fun ls hl => ?_)
      refine lv_aload_n B.1 B.2.1 dX9_handle_21 rfl (lv_at hl 0 rfl) ?_
      refine lv_ifnonnull (tgt := 29) B.1 B.2.1 dX9_handle_22 (by decide) ?_
      refine lv_aload_n B.1 B.2.1 dX9_handle_29 rfl (lv_at hl 0 rfl) ?_
      refine lv_iload_n B.1 B.2.1 dX9_handle_30 rfl (lv_at hl 3 rfl) ?_
      refine io_call_i Z (io_runV (ci := 2) (k := i10) [.int p2] [] B Z (io_c_X2_fact l D ca ad A _ i10 p2 h9 _ hw) io_k_9_131 (io_hR (by decide) (by decide)) rfl (Nat.lt_trans h9 (by decide)) (io_e2 h9 _) rfl hl.1 (Nat.le_of_ble_eq_true rfl) dX9_handle_31 ⟨Nat.le_refl _, Nat.le_refl _⟩) (fun r11 s12 H locs hw Z => ?_)
      exact io_ret_i B Z hr hlk hw dX9_handle_34
  · have hw := hw.1 k5
    refine lv_bipush (v := (-2)) B.1 B.2.1 dX9_handle_9 (by decide) ?_
    exact io_ret_i B Z hr hlk hw dX9_handle_11
def wp_X9_content (σ : io_M) (p1 : Int32) (p2 : Int32) (post : Int32 → io_M → Prop) : Prop := (wp_X9_within σ p1 8 (fun r2 s3 => ((r2 = 0 → post (-2) s3) ∧ (¬ (r2 = 0) → (wp_X1_byteAt s3 p1 p2 (fun r6 s7 => post r6 s7))))))
set_option maxHeartbeats 4000000 in
set_option maxRecDepth 100000 in
theorem io_c_X9_content (l : Launch) (D : va_G) (ca : Nat → ClassId) (ad : Nat → Nat) (A : Nat → Prop) (σ : io_M) (p1 : Int32) (p2 : Int32) (post : Int32 → io_M → Prop) (hw : wp_X9_content σ p1 p2 post) : Met l yX9_content (.code yX9_content cX9_content 3 (some .int) :: io_tb) (io_rm 1) (va_Pc [.ref (ad 110), .int p1, .int p2] (io_W D ca ad A σ)) (va_Qi post (io_W D ca ad A) A) 0 0 A := by
  refine Met.ofW (cc := cX9_content) (maxL := 3) (ret := (some .int)) (by decide) rfl ?_
  intro p e s m args below meth c s₁ Bd hml hv
  obtain ⟨rfl, hW0⟩ := hv
  have Z := io_Z.start hW0
  have B : CallFix p m c cX9_content 3 s _ io_tb RX9 := ⟨Bd.exec, Bd.bytes, hml, findClass_of_methodNamed Bd.named, fun w hw => atoms_spec (ws := (.code yX9_content cX9_content 3 (some .int) :: io_tb)) Bd.pre w (List.mem_cons_of_mem _ hw)⟩
  have hr := Bd.returns
  have hlk := Bd.notSynchronized
  have hl := lv_entry ([.ref (ad 110), .int p1, .int p2]) (n := 3) (Nat.le_of_ble_eq_true rfl)
  rw [lg_entry_eq]
  generalize (lg_sl ([.ref (ad 110), .int p1, .int p2]) ++ List.replicate (3 - (lg_sl ([.ref (ad 110), .int p1, .int p2])).length) Slot.unset).toArray = ls at hl ⊢
  have hl : lv_has ls 3 [(0, .ref (ad 110)), (1, .int p1), (2, .int p2)] := hl
  show W p l e (io_rm 1) s m _ below meth c s.heap [] 0 0 _ (F0 m 0 ls [])
  unfold wp_X9_content at hw
  refine lv_iload_n B.1 B.2.1 dX9_content_0 rfl (lv_at hl 1 rfl) ?_
  refine lv_bipush (v := 8) B.1 B.2.1 dX9_content_1 (by decide) ?_
  refine io_call_i Z (io_runS [.int p1, .int 8] [] B Z (io_c_X9_within l D ca ad A _ p1 8 _ hw) io_k_9_62 (io_hR (by decide) (by decide)) rfl hl.1 (Nat.le_of_ble_eq_true rfl) dX9_content_3 ⟨Nat.le_refl _, Nat.le_refl _⟩) (fun r2 s3 H locs hw Z => ?_)
  obtain ⟨b4, hw⟩ := hw
  refine lv_if_eq (tgt := 21) B.1 B.2.1 dX9_content_6 (by decide) (fun k5 => ?_) (fun k5 => ?_)
  · have hw := hw.1 k5
    refine lv_bipush (v := (-2)) B.1 B.2.1 dX9_content_21 (by decide) ?_
    exact io_ret_i B Z hr hlk hw dX9_content_23
  · have hw := hw.2 k5
    refine lv_aload_n B.1 B.2.1 dX9_content_9 rfl (lv_at hl 0 rfl) ?_
    refine io_g_9_0 B Z dX9_content_10 ?_
    refine lv_iload_n B.1 B.2.1 dX9_content_13 rfl (lv_at hl 1 rfl) ?_
    refine lv_iload_n B.1 B.2.1 dX9_content_14 rfl (lv_at hl 2 rfl) ?_
    refine io_call_i Z (io_runV (ci := 1) (k := 88) [.int p1, .int p2] [] B Z (io_c_X1_byteAt l D ca ad A _ p1 p2 _ hw) io_k_9_134 (io_hR (by decide) (by decide)) rfl (by decide) (io_e_88 _) rfl hl.1 (Nat.le_of_ble_eq_true rfl) dX9_content_15 ⟨Nat.le_refl _, Nat.le_refl _⟩) (fun r6 s7 H locs hw Z => ?_)
    refine lv_goto (tgt := 23) B.1 B.2.1 dX9_content_18 (by decide) ?_
    exact io_ret_i B Z hr hlk hw dX9_content_23
def wp_X9_size (σ : io_M) (p1 : Int32) (post : Int32 → io_M → Prop) : Prop := (wp_X9_within σ p1 8 (fun r2 s3 => ((r2 = 0 → post (-2) s3) ∧ (¬ (r2 = 0) → (wp_X1_isThere s3 p1 (fun r6 s7 => ((r6 = 0 → post (-1) s7) ∧ (¬ (r6 = 0) → (wp_X1_lengthOf s7 p1 (fun r10 s11 => post r10 s11))))))))))
set_option maxHeartbeats 4000000 in
set_option maxRecDepth 100000 in
theorem io_c_X9_size (l : Launch) (D : va_G) (ca : Nat → ClassId) (ad : Nat → Nat) (A : Nat → Prop) (σ : io_M) (p1 : Int32) (post : Int32 → io_M → Prop) (hw : wp_X9_size σ p1 post) : Met l yX9_size (.code yX9_size cX9_size 2 (some .int) :: io_tb) (io_rm 1) (va_Pc [.ref (ad 110), .int p1] (io_W D ca ad A σ)) (va_Qi post (io_W D ca ad A) A) 0 0 A := by
  refine Met.ofW (cc := cX9_size) (maxL := 2) (ret := (some .int)) (by decide) rfl ?_
  intro p e s m args below meth c s₁ Bd hml hv
  obtain ⟨rfl, hW0⟩ := hv
  have Z := io_Z.start hW0
  have B : CallFix p m c cX9_size 2 s _ io_tb RX9 := ⟨Bd.exec, Bd.bytes, hml, findClass_of_methodNamed Bd.named, fun w hw => atoms_spec (ws := (.code yX9_size cX9_size 2 (some .int) :: io_tb)) Bd.pre w (List.mem_cons_of_mem _ hw)⟩
  have hr := Bd.returns
  have hlk := Bd.notSynchronized
  have hl := lv_entry ([.ref (ad 110), .int p1]) (n := 2) (Nat.le_of_ble_eq_true rfl)
  rw [lg_entry_eq]
  generalize (lg_sl ([.ref (ad 110), .int p1]) ++ List.replicate (2 - (lg_sl ([.ref (ad 110), .int p1])).length) Slot.unset).toArray = ls at hl ⊢
  have hl : lv_has ls 2 [(0, .ref (ad 110)), (1, .int p1)] := hl
  show W p l e (io_rm 1) s m _ below meth c s.heap [] 0 0 _ (F0 m 0 ls [])
  unfold wp_X9_size at hw
  refine lv_iload_n B.1 B.2.1 dX9_size_0 rfl (lv_at hl 1 rfl) ?_
  refine lv_bipush (v := 8) B.1 B.2.1 dX9_size_1 (by decide) ?_
  refine io_call_i Z (io_runS [.int p1, .int 8] [] B Z (io_c_X9_within l D ca ad A _ p1 8 _ hw) io_k_9_62 (io_hR (by decide) (by decide)) rfl hl.1 (Nat.le_of_ble_eq_true rfl) dX9_size_3 ⟨Nat.le_refl _, Nat.le_refl _⟩) (fun r2 s3 H locs hw Z => ?_)
  obtain ⟨b4, hw⟩ := hw
  refine lv_if_ne (tgt := 12) B.1 B.2.1 dX9_size_6 (by decide) (fun k5 => ?_) (fun k5 => ?_)
  · have hw := hw.2 k5
    refine lv_aload_n B.1 B.2.1 dX9_size_12 rfl (lv_at hl 0 rfl) ?_
    refine io_g_9_0 B Z dX9_size_13 ?_
    refine lv_iload_n B.1 B.2.1 dX9_size_16 rfl (lv_at hl 1 rfl) ?_
    refine io_call_i Z (io_runV (ci := 1) (k := 88) [.int p1] [] B Z (io_c_X1_isThere l D ca ad A _ p1 _ hw) io_k_9_73 (io_hR (by decide) (by decide)) rfl (by decide) (io_e_88 _) rfl hl.1 (Nat.le_of_ble_eq_true rfl) dX9_size_17 ⟨Nat.le_refl _, Nat.le_refl _⟩) (fun r6 s7 H locs hw Z => ?_)
    obtain ⟨b8, hw⟩ := hw
    refine lv_if_eq (tgt := 34) B.1 B.2.1 dX9_size_20 (by decide) (fun k9 => ?_) (fun k9 => ?_)
    · have hw := hw.1 k9
      refine lv_iconst (v := (-1)) B.1 B.2.1 dX9_size_34 (by decide) ?_
      exact io_ret_i B Z hr hlk hw dX9_size_35
    · have hw := hw.2 k9
      refine lv_aload_n B.1 B.2.1 dX9_size_23 rfl (lv_at hl 0 rfl) ?_
      refine io_g_9_0 B Z dX9_size_24 ?_
      refine lv_iload_n B.1 B.2.1 dX9_size_27 rfl (lv_at hl 1 rfl) ?_
      refine io_call_i Z (io_runV (ci := 1) (k := 88) [.int p1] [] B Z (io_c_X1_lengthOf l D ca ad A _ p1 _ hw) io_k_9_69 (io_hR (by decide) (by decide)) rfl (by decide) (io_e_88 _) rfl hl.1 (Nat.le_of_ble_eq_true rfl) dX9_size_28 ⟨Nat.le_refl _, Nat.le_refl _⟩) (fun r10 s11 H locs hw Z => ?_)
      refine lv_goto (tgt := 35) B.1 B.2.1 dX9_size_31 (by decide) ?_
      exact io_ret_i B Z hr hlk hw dX9_size_35
  · have hw := hw.1 k5
    refine lv_bipush (v := (-2)) B.1 B.2.1 dX9_size_9 (by decide) ?_
    exact io_ret_i B Z hr hlk hw dX9_size_11
def wp_X9_printed (σ : io_M) (p1 : Int32) (post : Int32 → io_M → Prop) : Prop := (wp_X0_printedByte σ p1 (fun r2 s3 => post r2 s3))
set_option maxHeartbeats 4000000 in
set_option maxRecDepth 100000 in
theorem io_c_X9_printed (l : Launch) (D : va_G) (ca : Nat → ClassId) (ad : Nat → Nat) (A : Nat → Prop) (σ : io_M) (p1 : Int32) (post : Int32 → io_M → Prop) (hw : wp_X9_printed σ p1 post) : Met l yX9_printed (.code yX9_printed cX9_printed 2 (some .int) :: io_tb) (io_rm 2) (va_Pc [.ref (ad 110), .int p1] (io_W D ca ad A σ)) (va_Qi post (io_W D ca ad A) A) 0 0 A := by
  refine Met.ofW (cc := cX9_printed) (maxL := 2) (ret := (some .int)) (by decide) rfl ?_
  intro p e s m args below meth c s₁ Bd hml hv
  obtain ⟨rfl, hW0⟩ := hv
  have Z := io_Z.start hW0
  have B : CallFix p m c cX9_printed 2 s _ io_tb RX9 := ⟨Bd.exec, Bd.bytes, hml, findClass_of_methodNamed Bd.named, fun w hw => atoms_spec (ws := (.code yX9_printed cX9_printed 2 (some .int) :: io_tb)) Bd.pre w (List.mem_cons_of_mem _ hw)⟩
  have hr := Bd.returns
  have hlk := Bd.notSynchronized
  have hl := lv_entry ([.ref (ad 110), .int p1]) (n := 2) (Nat.le_of_ble_eq_true rfl)
  rw [lg_entry_eq]
  generalize (lg_sl ([.ref (ad 110), .int p1]) ++ List.replicate (2 - (lg_sl ([.ref (ad 110), .int p1])).length) Slot.unset).toArray = ls at hl ⊢
  have hl : lv_has ls 2 [(0, .ref (ad 110)), (1, .int p1)] := hl
  show W p l e (io_rm 2) s m _ below meth c s.heap [] 0 0 _ (F0 m 0 ls [])
  unfold wp_X9_printed at hw
  refine lv_aload_n B.1 B.2.1 dX9_printed_0 rfl (lv_at hl 0 rfl) ?_
  refine io_g_9_1 B Z dX9_printed_1 ?_
  refine lv_iload_n B.1 B.2.1 dX9_printed_4 rfl (lv_at hl 1 rfl) ?_
  refine io_call_i Z (io_runV (ci := 0) (k := 93) [.int p1] [] B Z (io_c_X0_printedByte l D ca ad A _ p1 _ hw) io_k_9_137 (io_hR (by decide) (by decide)) rfl (by decide) (io_e_93 _) rfl hl.1 (Nat.le_of_ble_eq_true rfl) dX9_printed_5 ⟨Nat.le_refl _, Nat.le_refl _⟩) (fun r2 s3 H locs hw Z => ?_)
  exact io_ret_i B Z hr hlk hw dX9_printed_8
def wp_X9_told (σ : io_M) (p1 : Int32) (post : Int32 → io_M → Prop) : Prop := ((p1 = 0 → (wp_X7_length σ (fun r3 s4 => post r3 s4))) ∧ (¬ (p1 = 0) → ((p1 = 1 → (wp_X0_left σ (fun r6 s7 => post r6 s7))) ∧ (¬ (p1 = 1) → ((p1 = 2 → (wp_X0_printedCount σ (fun r9 s10 => post r9 s10))) ∧ (¬ (p1 = 2) → ((p1 = 3 → (wp_X1_used σ (fun r12 s13 => post r12 s13))) ∧ (¬ (p1 = 3) → ((p1 = 4 → (wp_X3_count σ (fun r15 s16 => post r15 s16))) ∧ (¬ (p1 = 4) → ((p1 = 5 → (wp_X6_count σ (fun r18 s19 => post r18 s19))) ∧ (¬ (p1 = 5) → ((p1 = 6 → (wp_X4_count σ (fun r21 s22 => post r21 s22))) ∧ (¬ (p1 = 6) → post (-2) σ))))))))))))))
set_option maxHeartbeats 4000000 in
set_option maxRecDepth 100000 in
theorem io_c_X9_told (l : Launch) (D : va_G) (ca : Nat → ClassId) (ad : Nat → Nat) (A : Nat → Prop) (σ : io_M) (p1 : Int32) (post : Int32 → io_M → Prop) (hw : wp_X9_told σ p1 post) : Met l yX9_told (.code yX9_told cX9_told 2 (some .int) :: io_tb) (io_rm 1) (va_Pc [.ref (ad 110), .int p1] (io_W D ca ad A σ)) (va_Qi post (io_W D ca ad A) A) 0 0 A := by
  refine Met.ofW (cc := cX9_told) (maxL := 2) (ret := (some .int)) (by decide) rfl ?_
  intro p e s m args below meth c s₁ Bd hml hv
  obtain ⟨rfl, hW0⟩ := hv
  have Z := io_Z.start hW0
  have B : CallFix p m c cX9_told 2 s _ io_tb RX9 := ⟨Bd.exec, Bd.bytes, hml, findClass_of_methodNamed Bd.named, fun w hw => atoms_spec (ws := (.code yX9_told cX9_told 2 (some .int) :: io_tb)) Bd.pre w (List.mem_cons_of_mem _ hw)⟩
  have hr := Bd.returns
  have hlk := Bd.notSynchronized
  have hl := lv_entry ([.ref (ad 110), .int p1]) (n := 2) (Nat.le_of_ble_eq_true rfl)
  rw [lg_entry_eq]
  generalize (lg_sl ([.ref (ad 110), .int p1]) ++ List.replicate (2 - (lg_sl ([.ref (ad 110), .int p1])).length) Slot.unset).toArray = ls at hl ⊢
  have hl : lv_has ls 2 [(0, .ref (ad 110)), (1, .int p1)] := hl
  show W p l e (io_rm 1) s m _ below meth c s.heap [] 0 0 _ (F0 m 0 ls [])
  unfold wp_X9_told at hw
  refine lv_iload_n B.1 B.2.1 dX9_told_0 rfl (lv_at hl 1 rfl) ?_
  rcases Classical.em (p1 = 0) with k2 | k2
  · have hw := hw.1 k2
    refine lv_tableIn (tgt := 44) (off := 43) B.1 B.2.1 dX9_told_1 (by rw [k2]; decide) (by rw [k2]; decide) (by rw [k2]; decide) (by decide) ?_
    refine lv_aload_n B.1 B.2.1 dX9_told_44 rfl (lv_at hl 0 rfl) ?_
    refine io_g_9_2 B Z dX9_told_45 ?_
    refine io_call_i Z (io_runV (ci := 7) (k := 96) [] [] B Z (io_c_X7_length l D ca ad A _ _ hw) io_k_9_103 (io_hR (by decide) (by decide)) rfl (by decide) (io_e_96 _) rfl hl.1 (Nat.le_of_ble_eq_true rfl) dX9_told_48 ⟨Nat.le_refl _, Nat.le_refl _⟩) (fun r3 s4 H locs hw Z => ?_)
    exact io_ret_i B Z hr hlk hw dX9_told_51
  have hw := hw.2 k2
  rcases Classical.em (p1 = 1) with k5 | k5
  · have hw := hw.1 k5
    refine lv_tableIn (tgt := 52) (off := 51) B.1 B.2.1 dX9_told_1 (by rw [k5]; decide) (by rw [k5]; decide) (by rw [k5]; decide) (by decide) ?_
    refine lv_aload_n B.1 B.2.1 dX9_told_52 rfl (lv_at hl 0 rfl) ?_
    refine io_g_9_1 B Z dX9_told_53 ?_
    refine io_call_i Z (io_runV (ci := 0) (k := 93) [] [] B Z (io_c_X0_left l D ca ad A _ _ hw) io_k_9_91 (io_hR (by decide) (by decide)) rfl (by decide) (io_e_93 _) rfl hl.1 (Nat.le_of_ble_eq_true rfl) dX9_told_56 ⟨Nat.le_refl _, Nat.le_refl _⟩) (fun r6 s7 H locs hw Z => ?_)
    exact io_ret_i B Z hr hlk hw dX9_told_59
  have hw := hw.2 k5
  rcases Classical.em (p1 = 2) with k8 | k8
  · have hw := hw.1 k8
    refine lv_tableIn (tgt := 60) (off := 59) B.1 B.2.1 dX9_told_1 (by rw [k8]; decide) (by rw [k8]; decide) (by rw [k8]; decide) (by decide) ?_
    refine lv_aload_n B.1 B.2.1 dX9_told_60 rfl (lv_at hl 0 rfl) ?_
    refine io_g_9_1 B Z dX9_told_61 ?_
    refine io_call_i Z (io_runV (ci := 0) (k := 93) [] [] B Z (io_c_X0_printedCount l D ca ad A _ _ hw) io_k_9_140 (io_hR (by decide) (by decide)) rfl (by decide) (io_e_93 _) rfl hl.1 (Nat.le_of_ble_eq_true rfl) dX9_told_64 ⟨Nat.le_refl _, Nat.le_refl _⟩) (fun r9 s10 H locs hw Z => ?_)
    exact io_ret_i B Z hr hlk hw dX9_told_67
  have hw := hw.2 k8
  rcases Classical.em (p1 = 3) with k11 | k11
  · have hw := hw.1 k11
    refine lv_tableIn (tgt := 68) (off := 67) B.1 B.2.1 dX9_told_1 (by rw [k11]; decide) (by rw [k11]; decide) (by rw [k11]; decide) (by decide) ?_
    refine lv_aload_n B.1 B.2.1 dX9_told_68 rfl (lv_at hl 0 rfl) ?_
    refine io_g_9_0 B Z dX9_told_69 ?_
    refine io_call_i Z (io_runV (ci := 1) (k := 88) [] [] B Z (io_c_X1_used l D ca ad A _ _ hw) io_k_9_143 (io_hR (by decide) (by decide)) rfl (by decide) (io_e_88 _) rfl hl.1 (Nat.le_of_ble_eq_true rfl) dX9_told_72 ⟨Nat.le_refl _, Nat.le_refl _⟩) (fun r12 s13 H locs hw Z => ?_)
    exact io_ret_i B Z hr hlk hw dX9_told_75
  have hw := hw.2 k11
  rcases Classical.em (p1 = 4) with k14 | k14
  · have hw := hw.1 k14
    refine lv_tableIn (tgt := 76) (off := 75) B.1 B.2.1 dX9_told_1 (by rw [k14]; decide) (by rw [k14]; decide) (by rw [k14]; decide) (by decide) ?_
    refine lv_aload_n B.1 B.2.1 dX9_told_76 rfl (lv_at hl 0 rfl) ?_
    refine io_g_9_3 B Z dX9_told_77 ?_
    refine io_call_i Z (io_runV (ci := 3) (k := 101) [] [] B Z (io_c_X3_count l D ca ad A _ _ hw) io_k_9_146 (io_hR (by decide) (by decide)) rfl (by decide) (io_e_101 _) rfl hl.1 (Nat.le_of_ble_eq_true rfl) dX9_told_80 ⟨Nat.le_refl _, Nat.le_refl _⟩) (fun r15 s16 H locs hw Z => ?_)
    exact io_ret_i B Z hr hlk hw dX9_told_83
  have hw := hw.2 k14
  rcases Classical.em (p1 = 5) with k17 | k17
  · have hw := hw.1 k17
    refine lv_tableIn (tgt := 84) (off := 83) B.1 B.2.1 dX9_told_1 (by rw [k17]; decide) (by rw [k17]; decide) (by rw [k17]; decide) (by decide) ?_
    refine lv_aload_n B.1 B.2.1 dX9_told_84 rfl (lv_at hl 0 rfl) ?_
    refine io_g_9_4 B Z dX9_told_85 ?_
    refine io_call_i Z (io_runV (ci := 6) (k := 103) [] [] B Z (io_c_X6_count l D ca ad A _ _ hw) io_k_9_149 (io_hR (by decide) (by decide)) rfl (by decide) (io_e_103 _) rfl hl.1 (Nat.le_of_ble_eq_true rfl) dX9_told_88 ⟨Nat.le_refl _, Nat.le_refl _⟩) (fun r18 s19 H locs hw Z => ?_)
    exact io_ret_i B Z hr hlk hw dX9_told_91
  have hw := hw.2 k17
  rcases Classical.em (p1 = 6) with k20 | k20
  · have hw := hw.1 k20
    refine lv_tableIn (tgt := 92) (off := 91) B.1 B.2.1 dX9_told_1 (by rw [k20]; decide) (by rw [k20]; decide) (by rw [k20]; decide) (by decide) ?_
    refine lv_aload_n B.1 B.2.1 dX9_told_92 rfl (lv_at hl 0 rfl) ?_
    refine io_g_9_5 B Z dX9_told_93 ?_
    refine io_call_i Z (io_runV (ci := 4) (k := 105) [] [] B Z (io_c_X4_count l D ca ad A _ _ hw) io_k_9_150 (io_hR (by decide) (by decide)) rfl (by decide) (io_e_105 _) rfl hl.1 (Nat.le_of_ble_eq_true rfl) dX9_told_96 ⟨Nat.le_refl _, Nat.le_refl _⟩) (fun r21 s22 H locs hw Z => ?_)
    exact io_ret_i B Z hr hlk hw dX9_told_99
  have hw := hw.2 k20
  refine io_tswE (tgt := 100) (fun z => (([0, 1, 2, 3, 4, 5, 6] : List Int32).contains z) = true) B dX9_told_1 (by decide) (by decide) (by decide) (by decide +kernel) (io_nc (List.forall_mem_cons.mpr ⟨fun q => k2 (q), (List.forall_mem_cons.mpr ⟨fun q => k5 (q), (List.forall_mem_cons.mpr ⟨fun q => k8 (q), (List.forall_mem_cons.mpr ⟨fun q => k11 (q), (List.forall_mem_cons.mpr ⟨fun q => k14 (q), (List.forall_mem_cons.mpr ⟨fun q => k17 (q), (List.forall_mem_cons.mpr ⟨fun q => k20 (q), (fun _ h => absurd h List.not_mem_nil)⟩)⟩)⟩)⟩)⟩)⟩)⟩)) ?_
  refine lv_bipush (v := (-2)) B.1 B.2.1 dX9_told_100 (by decide) ?_
  exact io_ret_i B Z hr hlk hw dX9_told_102
