def wj_X2_flush_62 (h : Nat) (σ : io_M) (x1 : Int32) (post : Int32 → io_M → Prop) : Prop := ((x1 = (σ h 2) → (∀ s108, s108 = io_up σ h 10 ((σ h 10) + x1) → (∀ s110, s110 = io_up s108 h 2 0 → post 0 s110))) ∧ (¬ (x1 = (σ h 2)) → (wp_X9_turned σ 5 (fun r102 s103 => (∀ s104, s104 = io_up s103 h 10 ((s103 h 10) + x1) → (∀ s106, s106 = io_up s104 h 2 0 → post r102 s106))))))
def wl_X2_flush_14 : Nat → Nat → io_M → Int32 → (Int32 → io_M → Prop) → Prop
  | 0, _, _, _, _ => False
  | n + 1, h, σ, x1, post => (((σ h 2) ≤ x1 → wj_X2_flush_62 h σ x1 post) ∧ (¬ ((σ h 2) ≤ x1) → (vp_in x1 20 ∧ (wp_X1_write σ (σ h 4) (σ h 6) (σ (20 + h) (x1).toNatClampNeg) (fun r202 s203 => ((r202 = 0 → wj_X2_flush_62 h s203 x1 post) ∧ (¬ (r202 = 0) → (∀ s206, s206 = io_up s203 h 6 ((s203 h 6) + 1) → wl_X2_flush_14 n h s206 (x1 + 1) post))))))))
def wp_X2_flush (σ : io_M) (h : Nat) (post : Int32 → io_M → Prop) : Prop := (((σ h 7) = 0 → (∃ n, wl_X2_flush_14 n h σ 0 post)) ∧ (¬ ((σ h 7) = 0) → (wp_X9_turned σ 4 (fun r3 s4 => post r3 s4))))
set_option maxHeartbeats 4000000 in
set_option maxRecDepth 100000 in
theorem io_c_X2_flush (l : Launch) (D : va_G) (ca : Nat → ClassId) (ad : Nat → Nat) (A : Nat → Prop) (σ : io_M) (h : Nat) (hh : h < 20) (post : Int32 → io_M → Prop) (hw : wp_X2_flush σ h post) : Met l yX2_flush (.code yX2_flush cX2_flush 3 (some .int) :: io_tb) (io_rm 2) (va_Pc [.ref (ad h)] (io_W D ca ad A σ)) (va_Qi post (io_W D ca ad A) A) 0 0 A := by
  refine Met.ofW (cc := cX2_flush) (maxL := 3) (ret := (some .int)) (by decide) rfl ?_
  intro p e s m args below meth c s₁ Bd hml hv
  obtain ⟨rfl, hW0⟩ := hv
  have Z := io_Z.start hW0
  have B : CallFix p m c cX2_flush 3 s _ io_tb RX2 := ⟨Bd.exec, Bd.bytes, hml, findClass_of_methodNamed Bd.named, fun w hw => atoms_spec (ws := (.code yX2_flush cX2_flush 3 (some .int) :: io_tb)) Bd.pre w (List.mem_cons_of_mem _ hw)⟩
  have hr := Bd.returns
  have hlk := Bd.notSynchronized
  have hl := lv_entry ([.ref (ad h)]) (n := 3) (Nat.le_of_ble_eq_true rfl)
  rw [lg_entry_eq]
  generalize (lg_sl ([.ref (ad h)]) ++ List.replicate (3 - (lg_sl ([.ref (ad h)])).length) Slot.unset).toArray = ls at hl ⊢
  have hl : lv_has ls 3 [(0, .ref (ad h))] := hl
  show W p l e (io_rm 2) s m _ below meth c s.heap [] 0 0 _ (F0 m 0 ls [])
  have JN62 : ∀ (σ : io_M) (x1 : Int32), wj_X2_flush_62 h σ x1 post → ∀ (H : Heap) (locs : List Loc), io_Z D ca ad A s H locs σ → ∀ ls : Array Slot, lv_has ls 3 [(0, .ref (ad h)), (1, .int x1)] → W p l e (io_rm 2) s m ([.ref (ad h)] : List Value).toArray below meth c H locs 0 0 (MQ below (va_Qi post (io_W D ca ad A) A) ([.ref (ad h)] : List Value).toArray s 0 0 A) (F0 m 62 ls []) := by
    intro σ x1 hw H locs Z ls hl
    unfold wj_X2_flush_62 at hw
    refine lv_iload_n B.1 B.2.1 dX2_flush_62 rfl (lv_at hl 1 rfl) ?_
    refine lv_aload_n B.1 B.2.1 dX2_flush_63 rfl (lv_at hl 0 rfl) ?_
    refine io_g_2_2 B Z hh dX2_flush_64 ?_
    refine lv_icmp_ne (tgt := 74) B.1 B.2.1 dX2_flush_67 (by decide) (fun k101 => ?_) (fun k101 => ?_)
    · have hw := hw.2 k101
      refine lv_iconst (v := 5) B.1 B.2.1 dX2_flush_74 (by decide) ?_
      refine io_call_i Z (io_runN [.int 5] [] B Z (io_c_X9_turned l D ca ad A _ 5 _ hw) io_k_2_61 (io_hR (by decide) (by decide)) rfl hl.1 (Nat.le_of_ble_eq_true rfl) dX2_flush_75 ⟨Nat.le_refl _, Nat.le_refl _⟩) (fun r102 s103 H locs hw Z => ?_)
      refine lv_istore_n (lv' := [(2, .int r102), (0, .ref (ad h)), (1, .int x1)]) B.1 B.2.1 dX2_flush_78 rfl hl (by decide) rfl (fun ls hl => ?_)
      refine lv_aload_n B.1 B.2.1 dX2_flush_79 rfl (lv_at hl 1 rfl) ?_
      refine lv_dup B.1 B.2.1 dX2_flush_80 rfl ?_
      refine io_g_2_10 B Z hh dX2_flush_81 ?_
      refine lv_iload_n B.1 B.2.1 dX2_flush_84 rfl (lv_at hl 2 rfl) ?_
      refine lv_iadd B.1 B.2.1 dX2_flush_85 ?_
      refine io_p_2_10 B Z hh dX2_flush_86 (fun s104 H locs e105 Z => ?_)
      have hw := hw s104 e105
      refine lv_aload_n B.1 B.2.1 dX2_flush_89 rfl (lv_at hl 1 rfl) ?_
      refine lv_iconst (v := 0) B.1 B.2.1 dX2_flush_90 (by decide) ?_
      refine io_p_2_2 B Z hh dX2_flush_91 (fun s106 H locs e107 Z => ?_)
      have hw := hw s106 e107
      refine lv_iload_n B.1 B.2.1 dX2_flush_94 rfl (lv_at hl 0 rfl) ?_
      exact io_ret_i B Z hr hlk hw dX2_flush_95
    · have hw := hw.1 k101
      refine lv_iconst (v := 0) B.1 B.2.1 dX2_flush_70 (by decide) ?_
      refine lv_goto (tgt := 78) B.1 B.2.1 dX2_flush_71 (by decide) ?_
      refine lv_istore_n (lv' := [(2, .int 0), (0, .ref (ad h)), (1, .int x1)]) B.1 B.2.1 dX2_flush_78 rfl hl (by decide) rfl (fun ls hl => ?_)
      refine lv_aload_n B.1 B.2.1 dX2_flush_79 rfl (lv_at hl 1 rfl) ?_
      refine lv_dup B.1 B.2.1 dX2_flush_80 rfl ?_
      refine io_g_2_10 B Z hh dX2_flush_81 ?_
      refine lv_iload_n B.1 B.2.1 dX2_flush_84 rfl (lv_at hl 2 rfl) ?_
      refine lv_iadd B.1 B.2.1 dX2_flush_85 ?_
      refine io_p_2_10 B Z hh dX2_flush_86 (fun s108 H locs e109 Z => ?_)
      have hw := hw s108 e109
      refine lv_aload_n B.1 B.2.1 dX2_flush_89 rfl (lv_at hl 1 rfl) ?_
      refine lv_iconst (v := 0) B.1 B.2.1 dX2_flush_90 (by decide) ?_
      refine io_p_2_2 B Z hh dX2_flush_91 (fun s110 H locs e111 Z => ?_)
      have hw := hw s110 e111
      refine lv_iload_n B.1 B.2.1 dX2_flush_94 rfl (lv_at hl 0 rfl) ?_
      exact io_ret_i B Z hr hlk hw dX2_flush_95
  have LP14 : ∀ (n : Nat) (σ : io_M) (x1 : Int32), wl_X2_flush_14 n h σ x1 post → ∀ (H : Heap) (locs : List Loc), io_Z D ca ad A s H locs σ → ∀ ls : Array Slot, lv_has ls 3 [(0, .ref (ad h)), (1, .int x1)] → W p l e (io_rm 2) s m ([.ref (ad h)] : List Value).toArray below meth c H locs 0 0 (MQ below (va_Qi post (io_W D ca ad A) A) ([.ref (ad h)] : List Value).toArray s 0 0 A) (F0 m 14 ls []) := by
    intro n
    induction n with
    | zero =>
      intro σ x1 hw
      exact hw.elim
    | succ n IH14 =>
      intro σ x1 hw H locs Z ls hl
      unfold wl_X2_flush_14 at hw
      refine lv_iload_n B.1 B.2.1 dX2_flush_14 rfl (lv_at hl 1 rfl) ?_
      refine lv_aload_n B.1 B.2.1 dX2_flush_15 rfl (lv_at hl 0 rfl) ?_
      refine io_g_2_2 B Z hh dX2_flush_16 ?_
      refine lv_icmp_ge (tgt := 62) B.1 B.2.1 dX2_flush_19 (by decide) (fun k201 => ?_) (fun k201 => ?_)
      · have hw := hw.1 k201
        exact JN62 _ x1 hw _ _ Z _ (lv_sub (l' := [(0, .ref (ad h)), (1, .int x1)]) hl [0, 1] rfl)
      · have hw := hw.2 k201
        refine lv_aload_n B.1 B.2.1 dX2_flush_22 rfl (lv_at hl 0 rfl) ?_
        refine io_g_2_0 B Z hh dX2_flush_23 ?_
        refine lv_aload_n B.1 B.2.1 dX2_flush_26 rfl (lv_at hl 0 rfl) ?_
        refine io_g_2_4 B Z hh dX2_flush_27 ?_
        refine lv_aload_n B.1 B.2.1 dX2_flush_30 rfl (lv_at hl 0 rfl) ?_
        refine io_g_2_6 B Z hh dX2_flush_31 ?_
        refine lv_aload_n B.1 B.2.1 dX2_flush_34 rfl (lv_at hl 0 rfl) ?_
        refine io_g_2_1 B Z hh dX2_flush_35 ?_
        refine lv_iload_n B.1 B.2.1 dX2_flush_38 rfl (lv_at hl 1 rfl) ?_
        refine io_iald B Z (20 + h) (by have := hh; omega) (io_eB hh) hw.1 dX2_flush_39 ?_
        have hw := hw.2
        refine io_call_i Z (io_runV (ci := 1) (k := 88) [.int (σ h 4), .int (σ h 6), .int (σ (20 + h) (x1).toNatClampNeg)] [] B Z (io_c_X1_write l D ca ad A _ (σ h 4) (σ h 6) (σ (20 + h) (x1).toNatClampNeg) _ hw) io_k_2_68 (io_hR (by decide) (by decide)) rfl (by decide) (io_e_88 _) rfl hl.1 (Nat.le_of_ble_eq_true rfl) dX2_flush_40 ⟨Nat.le_refl _, Nat.le_refl _⟩) (fun r202 s203 H locs hw Z => ?_)
        obtain ⟨b204, hw⟩ := hw
        refine lv_if_eq (tgt := 62) B.1 B.2.1 dX2_flush_43 (by decide) (fun k205 => ?_) (fun k205 => ?_)
        · have hw := hw.1 k205
          exact JN62 _ x1 hw _ _ Z _ (lv_sub (l' := [(0, .ref (ad h)), (1, .int x1)]) hl [0, 1] rfl)
        · have hw := hw.2 k205
          refine lv_iinc (v := (x1 + 1)) (lv' := [(1, .int (x1 + 1)), (0, .ref (ad h))]) B.1 B.2.1 dX2_flush_46 hl (k := 1) rfl rfl (by decide) rfl (fun ls hl => ?_)
          refine lv_aload_n B.1 B.2.1 dX2_flush_49 rfl (lv_at hl 1 rfl) ?_
          refine lv_dup B.1 B.2.1 dX2_flush_50 rfl ?_
          refine io_g_2_6 B Z hh dX2_flush_51 ?_
          refine lv_iconst (v := 1) B.1 B.2.1 dX2_flush_54 (by decide) ?_
          refine lv_iadd B.1 B.2.1 dX2_flush_55 ?_
          refine io_p_2_6 B Z hh dX2_flush_56 (fun s206 H locs e207 Z => ?_)
          have hw := hw s206 e207
          refine lv_goto (tgt := 14) B.1 B.2.1 dX2_flush_59 (by decide) ?_
          exact IH14 _ (x1 + 1) hw _ _ Z _ (lv_sub (l' := [(0, .ref (ad h)), (1, .int (x1 + 1))]) hl [1, 0] rfl)
  unfold wp_X2_flush at hw
  refine lv_aload_n B.1 B.2.1 dX2_flush_0 rfl (lv_at hl 0 rfl) ?_
  refine io_g_2_7 B Z hh dX2_flush_1 ?_
  refine lv_if_eq (tgt := 12) B.1 B.2.1 dX2_flush_4 (by decide) (fun k2 => ?_) (fun k2 => ?_)
  · have hw := hw.1 k2
    refine lv_iconst (v := 0) B.1 B.2.1 dX2_flush_12 (by decide) ?_
    refine lv_istore_n (lv' := [(1, .int 0), (0, .ref (ad h))]) B.1 B.2.1 dX2_flush_13 rfl hl (by decide) rfl (fun ls hl => ?_)
    obtain ⟨n, hw⟩ := hw
    exact LP14 n _ 0 hw _ _ Z _ (lv_sub (l' := [(0, .ref (ad h)), (1, .int 0)]) hl [1, 0] rfl)
  · have hw := hw.2 k2
    refine lv_iconst (v := 4) B.1 B.2.1 dX2_flush_7 (by decide) ?_
    refine io_call_i Z (io_runN [.int 4] [] B Z (io_c_X9_turned l D ca ad A _ 4 _ hw) io_k_2_61 (io_hR (by decide) (by decide)) rfl hl.1 (Nat.le_of_ble_eq_true rfl) dX2_flush_8 ⟨Nat.le_refl _, Nat.le_refl _⟩) (fun r3 s4 H locs hw Z => ?_)
    exact io_ret_i B Z hr hlk hw dX2_flush_11
def wp_X2_isOpen (σ : io_M) (h : Nat) (post : Int32 → io_M → Prop) : Prop := (((σ h 7) = 0 → post 1 σ) ∧ (¬ ((σ h 7) = 0) → post 0 σ))
set_option maxHeartbeats 4000000 in
set_option maxRecDepth 100000 in
theorem io_c_X2_isOpen (l : Launch) (D : va_G) (ca : Nat → ClassId) (ad : Nat → Nat) (A : Nat → Prop) (σ : io_M) (h : Nat) (hh : h < 20) (post : Int32 → io_M → Prop) (hw : wp_X2_isOpen σ h post) : Met l yX2_isOpen (.code yX2_isOpen cX2_isOpen 1 (some .boolean) :: io_tb) (io_rm 0) (va_Pc [.ref (ad h)] (io_W D ca ad A σ)) (va_Qi (fun r u => io_bl r ∧ post r u) (io_W D ca ad A) A) 0 0 A := by
  refine Met.ofW (cc := cX2_isOpen) (maxL := 1) (ret := (some .boolean)) (by decide) rfl ?_
  intro p e s m args below meth c s₁ Bd hml hv
  obtain ⟨rfl, hW0⟩ := hv
  have Z := io_Z.start hW0
  have B : CallFix p m c cX2_isOpen 1 s _ io_tb RX2 := ⟨Bd.exec, Bd.bytes, hml, findClass_of_methodNamed Bd.named, fun w hw => atoms_spec (ws := (.code yX2_isOpen cX2_isOpen 1 (some .boolean) :: io_tb)) Bd.pre w (List.mem_cons_of_mem _ hw)⟩
  have hr := Bd.returns
  have hlk := Bd.notSynchronized
  have hl := lv_entry ([.ref (ad h)]) (n := 1) (Nat.le_of_ble_eq_true rfl)
  rw [lg_entry_eq]
  generalize (lg_sl ([.ref (ad h)]) ++ List.replicate (1 - (lg_sl ([.ref (ad h)])).length) Slot.unset).toArray = ls at hl ⊢
  have hl : lv_has ls 1 [(0, .ref (ad h))] := hl
  show W p l e (io_rm 0) s m _ below meth c s.heap [] 0 0 _ (F0 m 0 ls [])
  unfold wp_X2_isOpen at hw
  refine lv_aload_n B.1 B.2.1 dX2_isOpen_0 rfl (lv_at hl 0 rfl) ?_
  refine io_g_2_7 B Z hh dX2_isOpen_1 ?_
  refine lv_if_ne (tgt := 11) B.1 B.2.1 dX2_isOpen_4 (by decide) (fun k2 => ?_) (fun k2 => ?_)
  · have hw := hw.2 k2
    refine lv_iconst (v := 0) B.1 B.2.1 dX2_isOpen_11 (by decide) ?_
    exact io_ret_z B Z hr hlk (Or.inl rfl) hw dX2_isOpen_12
  · have hw := hw.1 k2
    refine lv_iconst (v := 1) B.1 B.2.1 dX2_isOpen_7 (by decide) ?_
    refine lv_goto (tgt := 12) B.1 B.2.1 dX2_isOpen_8 (by decide) ?_
    exact io_ret_z B Z hr hlk (Or.inr rfl) hw dX2_isOpen_12
def wj_X2_begin_28 (h : Nat) (σ : io_M) (y0 : Int32) (post : io_M → Prop) : Prop := (∀ s101, s101 = io_up σ h 6 y0 → (∀ s103, s103 = io_up s101 h 7 0 → (∀ s105, s105 = io_up s103 h 3 0 → (∀ s107, s107 = io_up s105 h 2 0 → (∀ s109, s109 = io_up s107 h 8 0 → (∀ s111, s111 = io_up s109 h 9 0 → (∀ s113, s113 = io_up s111 h 10 0 → post s113)))))))
def wp_X2_begin (σ : io_M) (h : Nat) (p1 : Int32) (p2 : Int32) (post : io_M → Prop) : Prop := (∀ s2, s2 = io_up σ h 4 p1 → (∀ s4, s4 = io_up s2 h 5 p2 → ((p2 = 2 → (wp_X1_lengthOf s4 p1 (fun r7 s8 => wj_X2_begin_28 h s8 r7 post))) ∧ (¬ (p2 = 2) → wj_X2_begin_28 h s4 0 post))))
set_option maxHeartbeats 4000000 in
set_option maxRecDepth 100000 in
theorem io_c_X2_begin (l : Launch) (D : va_G) (ca : Nat → ClassId) (ad : Nat → Nat) (A : Nat → Prop) (σ : io_M) (h : Nat) (p1 : Int32) (p2 : Int32) (hh : h < 20) (post : io_M → Prop) (hw : wp_X2_begin σ h p1 p2 post) : Met l yX2_begin (.code yX2_begin cX2_begin 3 none :: io_tb) (io_rm 1) (va_Pc [.ref (ad h), .int p1, .int p2] (io_W D ca ad A σ)) (va_Qv post (io_W D ca ad A) A) 0 0 A := by
  refine Met.ofW (cc := cX2_begin) (maxL := 3) (ret := none) (by decide) rfl ?_
  intro p e s m args below meth c s₁ Bd hml hv
  obtain ⟨rfl, hW0⟩ := hv
  have Z := io_Z.start hW0
  have B : CallFix p m c cX2_begin 3 s _ io_tb RX2 := ⟨Bd.exec, Bd.bytes, hml, findClass_of_methodNamed Bd.named, fun w hw => atoms_spec (ws := (.code yX2_begin cX2_begin 3 none :: io_tb)) Bd.pre w (List.mem_cons_of_mem _ hw)⟩
  have hr := Bd.returns
  have hlk := Bd.notSynchronized
  have hl := lv_entry ([.ref (ad h), .int p1, .int p2]) (n := 3) (Nat.le_of_ble_eq_true rfl)
  rw [lg_entry_eq]
  generalize (lg_sl ([.ref (ad h), .int p1, .int p2]) ++ List.replicate (3 - (lg_sl ([.ref (ad h), .int p1, .int p2])).length) Slot.unset).toArray = ls at hl ⊢
  have hl : lv_has ls 3 [(0, .ref (ad h)), (1, .int p1), (2, .int p2)] := hl
  show W p l e (io_rm 1) s m _ below meth c s.heap [] 0 0 _ (F0 m 0 ls [])
  have JN28 : ∀ (σ : io_M) (y0 : Int32), wj_X2_begin_28 h σ y0 post → ∀ (H : Heap) (locs : List Loc), io_Z D ca ad A s H locs σ → ∀ ls : Array Slot, lv_has ls 3 [(0, .ref (ad h))] → W p l e (io_rm 1) s m ([.ref (ad h), .int p1, .int p2] : List Value).toArray below meth c H locs 0 0 (MQ below (va_Qv post (io_W D ca ad A) A) ([.ref (ad h), .int p1, .int p2] : List Value).toArray s 0 0 A) (F0 m 28 ls [.int y0, .ref (ad h)]) := by
    intro σ y0 hw H locs Z ls hl
    unfold wj_X2_begin_28 at hw
    refine io_p_2_6 B Z hh dX2_begin_28 (fun s101 H locs e102 Z => ?_)
    have hw := hw s101 e102
    refine lv_aload_n B.1 B.2.1 dX2_begin_31 rfl (lv_at hl 0 rfl) ?_
    refine lv_iconst (v := 0) B.1 B.2.1 dX2_begin_32 (by decide) ?_
    refine io_p_2_7 B Z hh dX2_begin_33 (fun s103 H locs e104 Z => ?_)
    have hw := hw s103 e104
    refine lv_aload_n B.1 B.2.1 dX2_begin_36 rfl (lv_at hl 0 rfl) ?_
    refine lv_iconst (v := 0) B.1 B.2.1 dX2_begin_37 (by decide) ?_
    refine io_p_2_3 B Z hh dX2_begin_38 (fun s105 H locs e106 Z => ?_)
    have hw := hw s105 e106
    refine lv_aload_n B.1 B.2.1 dX2_begin_41 rfl (lv_at hl 0 rfl) ?_
    refine lv_iconst (v := 0) B.1 B.2.1 dX2_begin_42 (by decide) ?_
    refine io_p_2_2 B Z hh dX2_begin_43 (fun s107 H locs e108 Z => ?_)
    have hw := hw s107 e108
    refine lv_aload_n B.1 B.2.1 dX2_begin_46 rfl (lv_at hl 0 rfl) ?_
    refine lv_iconst (v := 0) B.1 B.2.1 dX2_begin_47 (by decide) ?_
    refine io_p_2_8 B Z hh dX2_begin_48 (fun s109 H locs e110 Z => ?_)
    have hw := hw s109 e110
    refine lv_aload_n B.1 B.2.1 dX2_begin_51 rfl (lv_at hl 0 rfl) ?_
    refine lv_iconst (v := 0) B.1 B.2.1 dX2_begin_52 (by decide) ?_
    refine io_p_2_9 B Z hh dX2_begin_53 (fun s111 H locs e112 Z => ?_)
    have hw := hw s111 e112
    refine lv_aload_n B.1 B.2.1 dX2_begin_56 rfl (lv_at hl 0 rfl) ?_
    refine lv_iconst (v := 0) B.1 B.2.1 dX2_begin_57 (by decide) ?_
    refine io_p_2_10 B Z hh dX2_begin_58 (fun s113 H locs e114 Z => ?_)
    have hw := hw s113 e114
    exact io_ret_v B Z hr hlk hw dX2_begin_61
  unfold wp_X2_begin at hw
  refine lv_aload_n B.1 B.2.1 dX2_begin_0 rfl (lv_at hl 0 rfl) ?_
  refine lv_iload_n B.1 B.2.1 dX2_begin_1 rfl (lv_at hl 1 rfl) ?_
  refine io_p_2_4 B Z hh dX2_begin_2 (fun s2 H locs e3 Z => ?_)
  have hw := hw s2 e3
  refine lv_aload_n B.1 B.2.1 dX2_begin_5 rfl (lv_at hl 0 rfl) ?_
  refine lv_iload_n B.1 B.2.1 dX2_begin_6 rfl (lv_at hl 2 rfl) ?_
  refine io_p_2_5 B Z hh dX2_begin_7 (fun s4 H locs e5 Z => ?_)
  have hw := hw s4 e5
  refine lv_aload_n B.1 B.2.1 dX2_begin_10 rfl (lv_at hl 0 rfl) ?_
  refine lv_iload_n B.1 B.2.1 dX2_begin_11 rfl (lv_at hl 2 rfl) ?_
  refine lv_iconst (v := 2) B.1 B.2.1 dX2_begin_12 (by decide) ?_
  refine lv_icmp_ne (tgt := 27) B.1 B.2.1 dX2_begin_13 (by decide) (fun k6 => ?_) (fun k6 => ?_)
  · have hw := hw.2 k6
    refine lv_iconst (v := 0) B.1 B.2.1 dX2_begin_27 (by decide) ?_
    exact JN28 _ 0 hw _ _ Z _ (lv_sub (l' := [(0, .ref (ad h))]) hl [0] rfl)
  · have hw := hw.1 k6
    refine lv_aload_n B.1 B.2.1 dX2_begin_16 rfl (lv_at hl 0 rfl) ?_
    refine io_g_2_0 B Z hh dX2_begin_17 ?_
    refine lv_iload_n B.1 B.2.1 dX2_begin_20 rfl (lv_at hl 1 rfl) ?_
    refine io_call_i Z (io_runV (ci := 1) (k := 88) [.int p1] [.ref (ad h)] B Z (io_c_X1_lengthOf l D ca ad A _ p1 _ hw) io_k_2_47 (io_hR (by decide) (by decide)) rfl (by decide) (io_e_88 _) rfl hl.1 (Nat.le_of_ble_eq_true rfl) dX2_begin_21 ⟨Nat.le_refl _, Nat.le_refl _⟩) (fun r7 s8 H locs hw Z => ?_)
    refine lv_goto (tgt := 28) B.1 B.2.1 dX2_begin_24 (by decide) ?_
    exact JN28 _ r7 hw _ _ Z _ (lv_sub (l' := [(0, .ref (ad h))]) hl [0] rfl)
def wp_X2_holds (σ : io_M) (h : Nat) (p1 : Int32) (post : Int32 → io_M → Prop) : Prop := (((σ h 7) = 2 → post 0 σ) ∧ (¬ ((σ h 7) = 2) → (((σ h 4) = p1 → post 1 σ) ∧ (¬ ((σ h 4) = p1) → post 0 σ))))
set_option maxHeartbeats 4000000 in
set_option maxRecDepth 100000 in
theorem io_c_X2_holds (l : Launch) (D : va_G) (ca : Nat → ClassId) (ad : Nat → Nat) (A : Nat → Prop) (σ : io_M) (h : Nat) (p1 : Int32) (hh : h < 20) (post : Int32 → io_M → Prop) (hw : wp_X2_holds σ h p1 post) : Met l yX2_holds (.code yX2_holds cX2_holds 2 (some .boolean) :: io_tb) (io_rm 0) (va_Pc [.ref (ad h), .int p1] (io_W D ca ad A σ)) (va_Qi (fun r u => io_bl r ∧ post r u) (io_W D ca ad A) A) 0 0 A := by
  refine Met.ofW (cc := cX2_holds) (maxL := 2) (ret := (some .boolean)) (by decide) rfl ?_
  intro p e s m args below meth c s₁ Bd hml hv
  obtain ⟨rfl, hW0⟩ := hv
  have Z := io_Z.start hW0
  have B : CallFix p m c cX2_holds 2 s _ io_tb RX2 := ⟨Bd.exec, Bd.bytes, hml, findClass_of_methodNamed Bd.named, fun w hw => atoms_spec (ws := (.code yX2_holds cX2_holds 2 (some .boolean) :: io_tb)) Bd.pre w (List.mem_cons_of_mem _ hw)⟩
  have hr := Bd.returns
  have hlk := Bd.notSynchronized
  have hl := lv_entry ([.ref (ad h), .int p1]) (n := 2) (Nat.le_of_ble_eq_true rfl)
  rw [lg_entry_eq]
  generalize (lg_sl ([.ref (ad h), .int p1]) ++ List.replicate (2 - (lg_sl ([.ref (ad h), .int p1])).length) Slot.unset).toArray = ls at hl ⊢
  have hl : lv_has ls 2 [(0, .ref (ad h)), (1, .int p1)] := hl
  show W p l e (io_rm 0) s m _ below meth c s.heap [] 0 0 _ (F0 m 0 ls [])
  unfold wp_X2_holds at hw
  refine lv_aload_n B.1 B.2.1 dX2_holds_0 rfl (lv_at hl 0 rfl) ?_
  refine io_g_2_7 B Z hh dX2_holds_1 ?_
  refine lv_iconst (v := 2) B.1 B.2.1 dX2_holds_4 (by decide) ?_
  refine lv_icmp_eq (tgt := 20) B.1 B.2.1 dX2_holds_5 (by decide) (fun k2 => ?_) (fun k2 => ?_)
  · have hw := hw.1 k2
    refine lv_iconst (v := 0) B.1 B.2.1 dX2_holds_20 (by decide) ?_
    exact io_ret_z B Z hr hlk (Or.inl rfl) hw dX2_holds_21
  · have hw := hw.2 k2
    refine lv_aload_n B.1 B.2.1 dX2_holds_8 rfl (lv_at hl 0 rfl) ?_
    refine io_g_2_4 B Z hh dX2_holds_9 ?_
    refine lv_iload_n B.1 B.2.1 dX2_holds_12 rfl (lv_at hl 1 rfl) ?_
    refine lv_icmp_ne (tgt := 20) B.1 B.2.1 dX2_holds_13 (by decide) (fun k3 => ?_) (fun k3 => ?_)
    · have hw := hw.2 k3
      refine lv_iconst (v := 0) B.1 B.2.1 dX2_holds_20 (by decide) ?_
      exact io_ret_z B Z hr hlk (Or.inl rfl) hw dX2_holds_21
    · have hw := hw.1 k3
      refine lv_iconst (v := 1) B.1 B.2.1 dX2_holds_16 (by decide) ?_
      refine lv_goto (tgt := 21) B.1 B.2.1 dX2_holds_17 (by decide) ?_
      exact io_ret_z B Z hr hlk (Or.inr rfl) hw dX2_holds_21
def wp_X2_writes (σ : io_M) (h : Nat) (post : Int32 → io_M → Prop) : Prop := (((σ h 5) = 0 → post 0 σ) ∧ (¬ ((σ h 5) = 0) → post 1 σ))
set_option maxHeartbeats 4000000 in
set_option maxRecDepth 100000 in
theorem io_c_X2_writes (l : Launch) (D : va_G) (ca : Nat → ClassId) (ad : Nat → Nat) (A : Nat → Prop) (σ : io_M) (h : Nat) (hh : h < 20) (post : Int32 → io_M → Prop) (hw : wp_X2_writes σ h post) : Met l yX2_writes (.code yX2_writes cX2_writes 1 (some .boolean) :: io_tb) (io_rm 0) (va_Pc [.ref (ad h)] (io_W D ca ad A σ)) (va_Qi (fun r u => io_bl r ∧ post r u) (io_W D ca ad A) A) 0 0 A := by
  refine Met.ofW (cc := cX2_writes) (maxL := 1) (ret := (some .boolean)) (by decide) rfl ?_
  intro p e s m args below meth c s₁ Bd hml hv
  obtain ⟨rfl, hW0⟩ := hv
  have Z := io_Z.start hW0
  have B : CallFix p m c cX2_writes 1 s _ io_tb RX2 := ⟨Bd.exec, Bd.bytes, hml, findClass_of_methodNamed Bd.named, fun w hw => atoms_spec (ws := (.code yX2_writes cX2_writes 1 (some .boolean) :: io_tb)) Bd.pre w (List.mem_cons_of_mem _ hw)⟩
  have hr := Bd.returns
  have hlk := Bd.notSynchronized
  have hl := lv_entry ([.ref (ad h)]) (n := 1) (Nat.le_of_ble_eq_true rfl)
  rw [lg_entry_eq]
  generalize (lg_sl ([.ref (ad h)]) ++ List.replicate (1 - (lg_sl ([.ref (ad h)])).length) Slot.unset).toArray = ls at hl ⊢
  have hl : lv_has ls 1 [(0, .ref (ad h))] := hl
  show W p l e (io_rm 0) s m _ below meth c s.heap [] 0 0 _ (F0 m 0 ls [])
  unfold wp_X2_writes at hw
  refine lv_aload_n B.1 B.2.1 dX2_writes_0 rfl (lv_at hl 0 rfl) ?_
  refine io_g_2_5 B Z hh dX2_writes_1 ?_
  refine lv_if_eq (tgt := 11) B.1 B.2.1 dX2_writes_4 (by decide) (fun k2 => ?_) (fun k2 => ?_)
  · have hw := hw.1 k2
    refine lv_iconst (v := 0) B.1 B.2.1 dX2_writes_11 (by decide) ?_
    exact io_ret_z B Z hr hlk (Or.inl rfl) hw dX2_writes_12
  · have hw := hw.2 k2
    refine lv_iconst (v := 1) B.1 B.2.1 dX2_writes_7 (by decide) ?_
    refine lv_goto (tgt := 12) B.1 B.2.1 dX2_writes_8 (by decide) ?_
    exact io_ret_z B Z hr hlk (Or.inr rfl) hw dX2_writes_12
def wp_X2_changeBuffer (σ : io_M) (h : Nat) (p1 : Int32) (post : Int32 → io_M → Prop) : Prop := (wp_X2_flush σ h (fun r2 s3 => ((r2 = 0 → (∀ s5, s5 = io_up s3 h 3 p1 → post r2 s5)) ∧ (¬ (r2 = 0) → post r2 s3))))
set_option maxHeartbeats 4000000 in
set_option maxRecDepth 100000 in
theorem io_c_X2_changeBuffer (l : Launch) (D : va_G) (ca : Nat → ClassId) (ad : Nat → Nat) (A : Nat → Prop) (σ : io_M) (h : Nat) (p1 : Int32) (hh : h < 20) (post : Int32 → io_M → Prop) (hw : wp_X2_changeBuffer σ h p1 post) : Met l yX2_changeBuffer (.code yX2_changeBuffer cX2_changeBuffer 3 (some .int) :: io_tb) (io_rm 3) (va_Pc [.ref (ad h), .int p1] (io_W D ca ad A σ)) (va_Qi post (io_W D ca ad A) A) 0 0 A := by
  refine Met.ofW (cc := cX2_changeBuffer) (maxL := 3) (ret := (some .int)) (by decide) rfl ?_
  intro p e s m args below meth c s₁ Bd hml hv
  obtain ⟨rfl, hW0⟩ := hv
  have Z := io_Z.start hW0
  have B : CallFix p m c cX2_changeBuffer 3 s _ io_tb RX2 := ⟨Bd.exec, Bd.bytes, hml, findClass_of_methodNamed Bd.named, fun w hw => atoms_spec (ws := (.code yX2_changeBuffer cX2_changeBuffer 3 (some .int) :: io_tb)) Bd.pre w (List.mem_cons_of_mem _ hw)⟩
  have hr := Bd.returns
  have hlk := Bd.notSynchronized
  have hl := lv_entry ([.ref (ad h), .int p1]) (n := 3) (Nat.le_of_ble_eq_true rfl)
  rw [lg_entry_eq]
  generalize (lg_sl ([.ref (ad h), .int p1]) ++ List.replicate (3 - (lg_sl ([.ref (ad h), .int p1])).length) Slot.unset).toArray = ls at hl ⊢
  have hl : lv_has ls 3 [(0, .ref (ad h)), (1, .int p1)] := hl
  show W p l e (io_rm 3) s m _ below meth c s.heap [] 0 0 _ (F0 m 0 ls [])
  unfold wp_X2_changeBuffer at hw
  refine lv_aload_n B.1 B.2.1 dX2_changeBuffer_0 rfl (lv_at hl 0 rfl) ?_
  refine io_call_i Z (io_runV (ci := 2) (k := h) [] [] B Z (io_c_X2_flush l D ca ad A _ h hh _ hw) io_k_2_53 (io_hR (by decide) (by decide)) rfl (Nat.lt_trans hh (by decide)) (io_e2 hh _) rfl hl.1 (Nat.le_of_ble_eq_true rfl) dX2_changeBuffer_1 ⟨Nat.le_refl _, Nat.le_refl _⟩) (fun r2 s3 H locs hw Z => ?_)
  refine lv_istore_n (lv' := [(2, .int r2), (0, .ref (ad h)), (1, .int p1)]) B.1 B.2.1 dX2_changeBuffer_4 rfl hl (by decide) rfl (fun ls hl => ?_)
  refine lv_iload_n B.1 B.2.1 dX2_changeBuffer_5 rfl (lv_at hl 0 rfl) ?_
  refine lv_if_ne (tgt := 14) B.1 B.2.1 dX2_changeBuffer_6 (by decide) (fun k4 => ?_) (fun k4 => ?_)
  · have hw := hw.2 k4
    refine lv_iload_n B.1 B.2.1 dX2_changeBuffer_14 rfl (lv_at hl 0 rfl) ?_
    exact io_ret_i B Z hr hlk hw dX2_changeBuffer_15
  · have hw := hw.1 k4
    refine lv_aload_n B.1 B.2.1 dX2_changeBuffer_9 rfl (lv_at hl 1 rfl) ?_
    refine lv_iload_n B.1 B.2.1 dX2_changeBuffer_10 rfl (lv_at hl 2 rfl) ?_
    refine io_p_2_3 B Z hh dX2_changeBuffer_11 (fun s5 H locs e6 Z => ?_)
    have hw := hw s5 e6
    refine lv_iload_n B.1 B.2.1 dX2_changeBuffer_14 rfl (lv_at hl 0 rfl) ?_
    exact io_ret_i B Z hr hlk hw dX2_changeBuffer_15
def wp_X2_close (σ : io_M) (h : Nat) (post : Int32 → io_M → Prop) : Prop := (((σ h 7) = 0 → (wp_X2_flush σ h (fun r5 s6 => (∀ s7, s7 = io_up s6 h 7 2 → post r5 s7)))) ∧ (¬ ((σ h 7) = 0) → (∀ s3, s3 = io_up σ h 7 2 → post 0 s3)))
set_option maxHeartbeats 4000000 in
set_option maxRecDepth 100000 in
theorem io_c_X2_close (l : Launch) (D : va_G) (ca : Nat → ClassId) (ad : Nat → Nat) (A : Nat → Prop) (σ : io_M) (h : Nat) (hh : h < 20) (post : Int32 → io_M → Prop) (hw : wp_X2_close σ h post) : Met l yX2_close (.code yX2_close cX2_close 2 (some .int) :: io_tb) (io_rm 3) (va_Pc [.ref (ad h)] (io_W D ca ad A σ)) (va_Qi post (io_W D ca ad A) A) 0 0 A := by
  refine Met.ofW (cc := cX2_close) (maxL := 2) (ret := (some .int)) (by decide) rfl ?_
  intro p e s m args below meth c s₁ Bd hml hv
  obtain ⟨rfl, hW0⟩ := hv
  have Z := io_Z.start hW0
  have B : CallFix p m c cX2_close 2 s _ io_tb RX2 := ⟨Bd.exec, Bd.bytes, hml, findClass_of_methodNamed Bd.named, fun w hw => atoms_spec (ws := (.code yX2_close cX2_close 2 (some .int) :: io_tb)) Bd.pre w (List.mem_cons_of_mem _ hw)⟩
  have hr := Bd.returns
  have hlk := Bd.notSynchronized
  have hl := lv_entry ([.ref (ad h)]) (n := 2) (Nat.le_of_ble_eq_true rfl)
  rw [lg_entry_eq]
  generalize (lg_sl ([.ref (ad h)]) ++ List.replicate (2 - (lg_sl ([.ref (ad h)])).length) Slot.unset).toArray = ls at hl ⊢
  have hl : lv_has ls 2 [(0, .ref (ad h))] := hl
  show W p l e (io_rm 3) s m _ below meth c s.heap [] 0 0 _ (F0 m 0 ls [])
  unfold wp_X2_close at hw
  refine lv_aload_n B.1 B.2.1 dX2_close_0 rfl (lv_at hl 0 rfl) ?_
  refine io_g_2_7 B Z hh dX2_close_1 ?_
  refine lv_if_ne (tgt := 14) B.1 B.2.1 dX2_close_4 (by decide) (fun k2 => ?_) (fun k2 => ?_)
  · have hw := hw.2 k2
    refine lv_iconst (v := 0) B.1 B.2.1 dX2_close_14 (by decide) ?_
    refine lv_istore_n (lv' := [(1, .int 0), (0, .ref (ad h))]) B.1 B.2.1 dX2_close_15 rfl hl (by decide) rfl (fun ls hl => ?_)
    refine lv_aload_n B.1 B.2.1 dX2_close_16 rfl (lv_at hl 1 rfl) ?_
    refine lv_iconst (v := 2) B.1 B.2.1 dX2_close_17 (by decide) ?_
    refine io_p_2_7 B Z hh dX2_close_18 (fun s3 H locs e4 Z => ?_)
    have hw := hw s3 e4
    refine lv_iload_n B.1 B.2.1 dX2_close_21 rfl (lv_at hl 0 rfl) ?_
    exact io_ret_i B Z hr hlk hw dX2_close_22
  · have hw := hw.1 k2
    refine lv_aload_n B.1 B.2.1 dX2_close_7 rfl (lv_at hl 0 rfl) ?_
    refine io_call_i Z (io_runV (ci := 2) (k := h) [] [] B Z (io_c_X2_flush l D ca ad A _ h hh _ hw) io_k_2_53 (io_hR (by decide) (by decide)) rfl (Nat.lt_trans hh (by decide)) (io_e2 hh _) rfl hl.1 (Nat.le_of_ble_eq_true rfl) dX2_close_8 ⟨Nat.le_refl _, Nat.le_refl _⟩) (fun r5 s6 H locs hw Z => ?_)
    refine lv_goto (tgt := 15) B.1 B.2.1 dX2_close_11 (by decide) ?_
    refine lv_istore_n (lv' := [(1, .int r5), (0, .ref (ad h))]) B.1 B.2.1 dX2_close_15 rfl hl (by decide) rfl (fun ls hl => ?_)
    refine lv_aload_n B.1 B.2.1 dX2_close_16 rfl (lv_at hl 1 rfl) ?_
    refine lv_iconst (v := 2) B.1 B.2.1 dX2_close_17 (by decide) ?_
    refine io_p_2_7 B Z hh dX2_close_18 (fun s7 H locs e8 Z => ?_)
    have hw := hw s7 e8
    refine lv_iload_n B.1 B.2.1 dX2_close_21 rfl (lv_at hl 0 rfl) ?_
    exact io_ret_i B Z hr hlk hw dX2_close_22
def wp_X2_measure (σ : io_M) (h : Nat) (post : Int32 → io_M → Prop) : Prop := (wp_X2_flush σ h (fun r2 s3 => ((r2 = 0 → (wp_X1_lengthOf s3 (s3 h 4) (fun r5 s6 => post r5 s6))) ∧ (¬ (r2 = 0) → post r2 s3))))
set_option maxHeartbeats 4000000 in
set_option maxRecDepth 100000 in
theorem io_c_X2_measure (l : Launch) (D : va_G) (ca : Nat → ClassId) (ad : Nat → Nat) (A : Nat → Prop) (σ : io_M) (h : Nat) (hh : h < 20) (post : Int32 → io_M → Prop) (hw : wp_X2_measure σ h post) : Met l yX2_measure (.code yX2_measure cX2_measure 2 (some .int) :: io_tb) (io_rm 3) (va_Pc [.ref (ad h)] (io_W D ca ad A σ)) (va_Qi post (io_W D ca ad A) A) 0 0 A := by
  refine Met.ofW (cc := cX2_measure) (maxL := 2) (ret := (some .int)) (by decide) rfl ?_
  intro p e s m args below meth c s₁ Bd hml hv
  obtain ⟨rfl, hW0⟩ := hv
  have Z := io_Z.start hW0
  have B : CallFix p m c cX2_measure 2 s _ io_tb RX2 := ⟨Bd.exec, Bd.bytes, hml, findClass_of_methodNamed Bd.named, fun w hw => atoms_spec (ws := (.code yX2_measure cX2_measure 2 (some .int) :: io_tb)) Bd.pre w (List.mem_cons_of_mem _ hw)⟩
  have hr := Bd.returns
  have hlk := Bd.notSynchronized
  have hl := lv_entry ([.ref (ad h)]) (n := 2) (Nat.le_of_ble_eq_true rfl)
  rw [lg_entry_eq]
  generalize (lg_sl ([.ref (ad h)]) ++ List.replicate (2 - (lg_sl ([.ref (ad h)])).length) Slot.unset).toArray = ls at hl ⊢
  have hl : lv_has ls 2 [(0, .ref (ad h))] := hl
  show W p l e (io_rm 3) s m _ below meth c s.heap [] 0 0 _ (F0 m 0 ls [])
  unfold wp_X2_measure at hw
  refine lv_aload_n B.1 B.2.1 dX2_measure_0 rfl (lv_at hl 0 rfl) ?_
  refine io_call_i Z (io_runV (ci := 2) (k := h) [] [] B Z (io_c_X2_flush l D ca ad A _ h hh _ hw) io_k_2_53 (io_hR (by decide) (by decide)) rfl (Nat.lt_trans hh (by decide)) (io_e2 hh _) rfl hl.1 (Nat.le_of_ble_eq_true rfl) dX2_measure_1 ⟨Nat.le_refl _, Nat.le_refl _⟩) (fun r2 s3 H locs hw Z => ?_)
  refine lv_istore_n (lv' := [(1, .int r2), (0, .ref (ad h))]) B.1 B.2.1 dX2_measure_4 rfl hl (by decide) rfl (fun ls hl => ?_)
  refine lv_iload_n B.1 B.2.1 dX2_measure_5 rfl (lv_at hl 0 rfl) ?_
  refine lv_if_ne (tgt := 23) B.1 B.2.1 dX2_measure_6 (by decide) (fun k4 => ?_) (fun k4 => ?_)
  · have hw := hw.2 k4
    refine lv_iload_n B.1 B.2.1 dX2_measure_23 rfl (lv_at hl 0 rfl) ?_
    exact io_ret_i B Z hr hlk hw dX2_measure_24
  · have hw := hw.1 k4
    refine lv_aload_n B.1 B.2.1 dX2_measure_9 rfl (lv_at hl 1 rfl) ?_
    refine io_g_2_0 B Z hh dX2_measure_10 ?_
    refine lv_aload_n B.1 B.2.1 dX2_measure_13 rfl (lv_at hl 1 rfl) ?_
    refine io_g_2_4 B Z hh dX2_measure_14 ?_
    refine io_call_i Z (io_runV (ci := 1) (k := 88) [.int (s3 h 4)] [] B Z (io_c_X1_lengthOf l D ca ad A _ (s3 h 4) _ hw) io_k_2_47 (io_hR (by decide) (by decide)) rfl (by decide) (io_e_88 _) rfl hl.1 (Nat.le_of_ble_eq_true rfl) dX2_measure_17 ⟨Nat.le_refl _, Nat.le_refl _⟩) (fun r5 s6 H locs hw Z => ?_)
    refine lv_goto (tgt := 24) B.1 B.2.1 dX2_measure_20 (by decide) ?_
    exact io_ret_i B Z hr hlk hw dX2_measure_24
def wp_X2_nextByte (σ : io_M) (h : Nat) (post : Int32 → io_M → Prop) : Prop := (wp_X1_byteAt σ (σ h 4) (σ h 6) (fun r2 s3 => ((r2 = (-1) → post r2 s3) ∧ (¬ (r2 = (-1)) → (∀ s5, s5 = io_up s3 h 6 ((s3 h 6) + 1) → (∀ s7, s7 = io_up s5 h 9 ((s5 h 9) + 1) → post r2 s7))))))
set_option maxHeartbeats 4000000 in
set_option maxRecDepth 100000 in
theorem io_c_X2_nextByte (l : Launch) (D : va_G) (ca : Nat → ClassId) (ad : Nat → Nat) (A : Nat → Prop) (σ : io_M) (h : Nat) (hh : h < 20) (post : Int32 → io_M → Prop) (hw : wp_X2_nextByte σ h post) : Met l yX2_nextByte (.code yX2_nextByte cX2_nextByte 2 (some .int) :: io_tb) (io_rm 1) (va_Pc [.ref (ad h)] (io_W D ca ad A σ)) (va_Qi post (io_W D ca ad A) A) 0 0 A := by
  refine Met.ofW (cc := cX2_nextByte) (maxL := 2) (ret := (some .int)) (by decide) rfl ?_
  intro p e s m args below meth c s₁ Bd hml hv
  obtain ⟨rfl, hW0⟩ := hv
  have Z := io_Z.start hW0
  have B : CallFix p m c cX2_nextByte 2 s _ io_tb RX2 := ⟨Bd.exec, Bd.bytes, hml, findClass_of_methodNamed Bd.named, fun w hw => atoms_spec (ws := (.code yX2_nextByte cX2_nextByte 2 (some .int) :: io_tb)) Bd.pre w (List.mem_cons_of_mem _ hw)⟩
  have hr := Bd.returns
  have hlk := Bd.notSynchronized
  have hl := lv_entry ([.ref (ad h)]) (n := 2) (Nat.le_of_ble_eq_true rfl)
  rw [lg_entry_eq]
  generalize (lg_sl ([.ref (ad h)]) ++ List.replicate (2 - (lg_sl ([.ref (ad h)])).length) Slot.unset).toArray = ls at hl ⊢
  have hl : lv_has ls 2 [(0, .ref (ad h))] := hl
  show W p l e (io_rm 1) s m _ below meth c s.heap [] 0 0 _ (F0 m 0 ls [])
  unfold wp_X2_nextByte at hw
  refine lv_aload_n B.1 B.2.1 dX2_nextByte_0 rfl (lv_at hl 0 rfl) ?_
  refine io_g_2_0 B Z hh dX2_nextByte_1 ?_
  refine lv_aload_n B.1 B.2.1 dX2_nextByte_4 rfl (lv_at hl 0 rfl) ?_
  refine io_g_2_4 B Z hh dX2_nextByte_5 ?_
  refine lv_aload_n B.1 B.2.1 dX2_nextByte_8 rfl (lv_at hl 0 rfl) ?_
  refine io_g_2_6 B Z hh dX2_nextByte_9 ?_
  refine io_call_i Z (io_runV (ci := 1) (k := 88) [.int (σ h 4), .int (σ h 6)] [] B Z (io_c_X1_byteAt l D ca ad A _ (σ h 4) (σ h 6) _ hw) io_k_2_78 (io_hR (by decide) (by decide)) rfl (by decide) (io_e_88 _) rfl hl.1 (Nat.le_of_ble_eq_true rfl) dX2_nextByte_12 ⟨Nat.le_refl _, Nat.le_refl _⟩) (fun r2 s3 H locs hw Z => ?_)
  refine lv_istore_n (lv' := [(1, .int r2), (0, .ref (ad h))]) B.1 B.2.1 dX2_nextByte_15 rfl hl (by decide) rfl (fun ls hl => ?_)
  refine lv_iload_n B.1 B.2.1 dX2_nextByte_16 rfl (lv_at hl 0 rfl) ?_
  refine lv_iconst (v := (-1)) B.1 B.2.1 dX2_nextByte_17 (by decide) ?_
  refine lv_icmp_eq (tgt := 41) B.1 B.2.1 dX2_nextByte_18 (by decide) (fun k4 => ?_) (fun k4 => ?_)
  · have hw := hw.1 k4
    refine lv_iload_n B.1 B.2.1 dX2_nextByte_41 rfl (lv_at hl 0 rfl) ?_
    exact io_ret_i B Z hr hlk hw dX2_nextByte_42
  · have hw := hw.2 k4
    refine lv_aload_n B.1 B.2.1 dX2_nextByte_21 rfl (lv_at hl 1 rfl) ?_
    refine lv_dup B.1 B.2.1 dX2_nextByte_22 rfl ?_
    refine io_g_2_6 B Z hh dX2_nextByte_23 ?_
    refine lv_iconst (v := 1) B.1 B.2.1 dX2_nextByte_26 (by decide) ?_
    refine lv_iadd B.1 B.2.1 dX2_nextByte_27 ?_
    refine io_p_2_6 B Z hh dX2_nextByte_28 (fun s5 H locs e6 Z => ?_)
    have hw := hw s5 e6
    refine lv_aload_n B.1 B.2.1 dX2_nextByte_31 rfl (lv_at hl 1 rfl) ?_
    refine lv_dup B.1 B.2.1 dX2_nextByte_32 rfl ?_
    refine io_g_2_9 B Z hh dX2_nextByte_33 ?_
    refine lv_iconst (v := 1) B.1 B.2.1 dX2_nextByte_36 (by decide) ?_
    refine lv_iadd B.1 B.2.1 dX2_nextByte_37 ?_
    refine io_p_2_9 B Z hh dX2_nextByte_38 (fun s7 H locs e8 Z => ?_)
    have hw := hw s7 e8
    refine lv_iload_n B.1 B.2.1 dX2_nextByte_41 rfl (lv_at hl 0 rfl) ?_
    exact io_ret_i B Z hr hlk hw dX2_nextByte_42
def wp_X2_take (σ : io_M) (h : Nat) (post : Int32 → io_M → Prop) : Prop := (wp_X9_mayTake σ (σ h 5) (fun r2 s3 => ((r2 = 0 → (wp_X9_turned s3 4 (fun r14 s15 => post r14 s15))) ∧ (¬ (r2 = 0) → (wp_X2_flush s3 h (fun r6 s7 => ((r6 = 0 → (wp_X2_nextByte s7 h (fun r9 s10 => ((r9 = (-1) → (wp_X9_turned s10 3 (fun r12 s13 => post r12 s13))) ∧ (¬ (r9 = (-1)) → post r9 s10))))) ∧ (¬ (r6 = 0) → post r6 s7))))))))
set_option maxHeartbeats 4000000 in
set_option maxRecDepth 100000 in
theorem io_c_X2_take (l : Launch) (D : va_G) (ca : Nat → ClassId) (ad : Nat → Nat) (A : Nat → Prop) (σ : io_M) (h : Nat) (hh : h < 20) (post : Int32 → io_M → Prop) (hw : wp_X2_take σ h post) : Met l yX2_take (.code yX2_take cX2_take 3 (some .int) :: io_tb) (io_rm 3) (va_Pc [.ref (ad h)] (io_W D ca ad A σ)) (va_Qi post (io_W D ca ad A) A) 0 0 A := by
  refine Met.ofW (cc := cX2_take) (maxL := 3) (ret := (some .int)) (by decide) rfl ?_
  intro p e s m args below meth c s₁ Bd hml hv
  obtain ⟨rfl, hW0⟩ := hv
  have Z := io_Z.start hW0
  have B : CallFix p m c cX2_take 3 s _ io_tb RX2 := ⟨Bd.exec, Bd.bytes, hml, findClass_of_methodNamed Bd.named, fun w hw => atoms_spec (ws := (.code yX2_take cX2_take 3 (some .int) :: io_tb)) Bd.pre w (List.mem_cons_of_mem _ hw)⟩
  have hr := Bd.returns
  have hlk := Bd.notSynchronized
  have hl := lv_entry ([.ref (ad h)]) (n := 3) (Nat.le_of_ble_eq_true rfl)
  rw [lg_entry_eq]
  generalize (lg_sl ([.ref (ad h)]) ++ List.replicate (3 - (lg_sl ([.ref (ad h)])).length) Slot.unset).toArray = ls at hl ⊢
  have hl : lv_has ls 3 [(0, .ref (ad h))] := hl
  show W p l e (io_rm 3) s m _ below meth c s.heap [] 0 0 _ (F0 m 0 ls [])
  unfold wp_X2_take at hw
  refine lv_aload_n B.1 B.2.1 dX2_take_0 rfl (lv_at hl 0 rfl) ?_
  refine io_g_2_5 B Z hh dX2_take_1 ?_
  refine io_call_i Z (io_runN [.int (σ h 5)] [] B Z (io_c_X9_mayTake l D ca ad A _ (σ h 5) _ hw) io_k_2_72 (io_hR (by decide) (by decide)) rfl hl.1 (Nat.le_of_ble_eq_true rfl) dX2_take_4 ⟨Nat.le_refl _, Nat.le_refl _⟩) (fun r2 s3 H locs hw Z => ?_)
  obtain ⟨b4, hw⟩ := hw
  refine lv_if_ne (tgt := 15) B.1 B.2.1 dX2_take_7 (by decide) (fun k5 => ?_) (fun k5 => ?_)
  · have hw := hw.2 k5
    refine lv_aload_n B.1 B.2.1 dX2_take_15 rfl (lv_at hl 0 rfl) ?_
    refine io_call_i Z (io_runV (ci := 2) (k := h) [] [] B Z (io_c_X2_flush l D ca ad A _ h hh _ hw) io_k_2_53 (io_hR (by decide) (by decide)) rfl (Nat.lt_trans hh (by decide)) (io_e2 hh _) rfl hl.1 (Nat.le_of_ble_eq_true rfl) dX2_take_16 ⟨Nat.le_refl _, Nat.le_refl _⟩) (fun r6 s7 H locs hw Z => ?_)
    refine lv_istore_n (lv' := [(1, .int r6), (0, .ref (ad h))]) B.1 B.2.1 dX2_take_19 rfl hl (by decide) rfl (fun ls hl => ?_)
    refine lv_iload_n B.1 B.2.1 dX2_take_20 rfl (lv_at hl 0 rfl) ?_
    refine lv_if_eq (tgt := 26) B.1 B.2.1 dX2_take_21 (by decide) (fun k8 => ?_) (fun k8 => ?_)
    · have hw := hw.1 k8
      refine lv_aload_n B.1 B.2.1 dX2_take_26 rfl (lv_at hl 1 rfl) ?_
      refine io_call_i Z (io_runV (ci := 2) (k := h) [] [] B Z (io_c_X2_nextByte l D ca ad A _ h hh _ hw) io_k_2_75 (io_hR (by decide) (by decide)) rfl (Nat.lt_trans hh (by decide)) (io_e2 hh _) rfl hl.1 (Nat.le_of_ble_eq_true rfl) dX2_take_27 ⟨Nat.le_refl _, Nat.le_refl _⟩) (fun r9 s10 H locs hw Z => ?_)
      refine lv_istore_n (lv' := [(2, .int r9), (1, .int r6), (0, .ref (ad h))]) B.1 B.2.1 dX2_take_30 rfl hl (by decide) rfl (fun ls hl => ?_)
      refine lv_iload_n B.1 B.2.1 dX2_take_31 rfl (lv_at hl 0 rfl) ?_
      refine lv_iconst (v := (-1)) B.1 B.2.1 dX2_take_32 (by decide) ?_
      refine lv_icmp_ne (tgt := 43) B.1 B.2.1 dX2_take_33 (by decide) (fun k11 => ?_) (fun k11 => ?_)
      · have hw := hw.2 k11
        refine lv_iload_n B.1 B.2.1 dX2_take_43 rfl (lv_at hl 0 rfl) ?_
        exact io_ret_i B Z hr hlk hw dX2_take_44
      · have hw := hw.1 k11
        refine lv_iconst (v := 3) B.1 B.2.1 dX2_take_36 (by decide) ?_
        refine io_call_i Z (io_runN [.int 3] [] B Z (io_c_X9_turned l D ca ad A _ 3 _ hw) io_k_2_61 (io_hR (by decide) (by decide)) rfl hl.1 (Nat.le_of_ble_eq_true rfl) dX2_take_37 ⟨Nat.le_refl _, Nat.le_refl _⟩) (fun r12 s13 H locs hw Z => ?_)
        refine lv_goto (tgt := 44) B.1 B.2.1 dX2_take_40 (by decide) ?_
        exact io_ret_i B Z hr hlk hw dX2_take_44
    · have hw := hw.2 k8
      refine lv_iload_n B.1 B.2.1 dX2_take_24 rfl (lv_at hl 0 rfl) ?_
      exact io_ret_i B Z hr hlk hw dX2_take_25
  · have hw := hw.1 k5
    refine lv_iconst (v := 4) B.1 B.2.1 dX2_take_10 (by decide) ?_
    refine io_call_i Z (io_runN [.int 4] [] B Z (io_c_X9_turned l D ca ad A _ 4 _ hw) io_k_2_61 (io_hR (by decide) (by decide)) rfl hl.1 (Nat.le_of_ble_eq_true rfl) dX2_take_11 ⟨Nat.le_refl _, Nat.le_refl _⟩) (fun r14 s15 H locs hw Z => ?_)
    exact io_ret_i B Z hr hlk hw dX2_take_14
def wp_X2_tellPlace (σ : io_M) (h : Nat) (post : Int32 → io_M → Prop) : Prop := (((σ h 7) = 0 → post ((σ h 6) + (σ h 2)) σ) ∧ (¬ ((σ h 7) = 0) → (wp_X9_turned σ 4 (fun r3 s4 => post r3 s4))))
set_option maxHeartbeats 4000000 in
set_option maxRecDepth 100000 in
theorem io_c_X2_tellPlace (l : Launch) (D : va_G) (ca : Nat → ClassId) (ad : Nat → Nat) (A : Nat → Prop) (σ : io_M) (h : Nat) (hh : h < 20) (post : Int32 → io_M → Prop) (hw : wp_X2_tellPlace σ h post) : Met l yX2_tellPlace (.code yX2_tellPlace cX2_tellPlace 1 (some .int) :: io_tb) (io_rm 1) (va_Pc [.ref (ad h)] (io_W D ca ad A σ)) (va_Qi post (io_W D ca ad A) A) 0 0 A := by
  refine Met.ofW (cc := cX2_tellPlace) (maxL := 1) (ret := (some .int)) (by decide) rfl ?_
  intro p e s m args below meth c s₁ Bd hml hv
  obtain ⟨rfl, hW0⟩ := hv
  have Z := io_Z.start hW0
  have B : CallFix p m c cX2_tellPlace 1 s _ io_tb RX2 := ⟨Bd.exec, Bd.bytes, hml, findClass_of_methodNamed Bd.named, fun w hw => atoms_spec (ws := (.code yX2_tellPlace cX2_tellPlace 1 (some .int) :: io_tb)) Bd.pre w (List.mem_cons_of_mem _ hw)⟩
  have hr := Bd.returns
  have hlk := Bd.notSynchronized
  have hl := lv_entry ([.ref (ad h)]) (n := 1) (Nat.le_of_ble_eq_true rfl)
  rw [lg_entry_eq]
  generalize (lg_sl ([.ref (ad h)]) ++ List.replicate (1 - (lg_sl ([.ref (ad h)])).length) Slot.unset).toArray = ls at hl ⊢
  have hl : lv_has ls 1 [(0, .ref (ad h))] := hl
  show W p l e (io_rm 1) s m _ below meth c s.heap [] 0 0 _ (F0 m 0 ls [])
  unfold wp_X2_tellPlace at hw
  refine lv_aload_n B.1 B.2.1 dX2_tellPlace_0 rfl (lv_at hl 0 rfl) ?_
  refine io_g_2_7 B Z hh dX2_tellPlace_1 ?_
  refine lv_if_ne (tgt := 19) B.1 B.2.1 dX2_tellPlace_4 (by decide) (fun k2 => ?_) (fun k2 => ?_)
  · have hw := hw.2 k2
    refine lv_iconst (v := 4) B.1 B.2.1 dX2_tellPlace_19 (by decide) ?_
    refine io_call_i Z (io_runN [.int 4] [] B Z (io_c_X9_turned l D ca ad A _ 4 _ hw) io_k_2_61 (io_hR (by decide) (by decide)) rfl hl.1 (Nat.le_of_ble_eq_true rfl) dX2_tellPlace_20 ⟨Nat.le_refl _, Nat.le_refl _⟩) (fun r3 s4 H locs hw Z => ?_)
    exact io_ret_i B Z hr hlk hw dX2_tellPlace_23
  · have hw := hw.1 k2
    refine lv_aload_n B.1 B.2.1 dX2_tellPlace_7 rfl (lv_at hl 0 rfl) ?_
    refine io_g_2_6 B Z hh dX2_tellPlace_8 ?_
    refine lv_aload_n B.1 B.2.1 dX2_tellPlace_11 rfl (lv_at hl 0 rfl) ?_
    refine io_g_2_2 B Z hh dX2_tellPlace_12 ?_
    refine lv_iadd B.1 B.2.1 dX2_tellPlace_15 ?_
    refine lv_goto (tgt := 23) B.1 B.2.1 dX2_tellPlace_16 (by decide) ?_
    exact io_ret_i B Z hr hlk hw dX2_tellPlace_23
def wp_X2_becomeHalf (σ : io_M) (h : Nat) (post : Int32 → io_M → Prop) : Prop := (((σ h 7) = 0 → (((σ h 5) = 0 → (∀ s4, s4 = io_up σ h 7 1 → post 1 s4)) ∧ (¬ ((σ h 5) = 0) → post 0 σ))) ∧ (¬ ((σ h 7) = 0) → post 0 σ))
set_option maxHeartbeats 4000000 in
set_option maxRecDepth 100000 in
theorem io_c_X2_becomeHalf (l : Launch) (D : va_G) (ca : Nat → ClassId) (ad : Nat → Nat) (A : Nat → Prop) (σ : io_M) (h : Nat) (hh : h < 20) (post : Int32 → io_M → Prop) (hw : wp_X2_becomeHalf σ h post) : Met l yX2_becomeHalf (.code yX2_becomeHalf cX2_becomeHalf 1 (some .boolean) :: io_tb) (io_rm 0) (va_Pc [.ref (ad h)] (io_W D ca ad A σ)) (va_Qi (fun r u => io_bl r ∧ post r u) (io_W D ca ad A) A) 0 0 A := by
  refine Met.ofW (cc := cX2_becomeHalf) (maxL := 1) (ret := (some .boolean)) (by decide) rfl ?_
  intro p e s m args below meth c s₁ Bd hml hv
  obtain ⟨rfl, hW0⟩ := hv
  have Z := io_Z.start hW0
  have B : CallFix p m c cX2_becomeHalf 1 s _ io_tb RX2 := ⟨Bd.exec, Bd.bytes, hml, findClass_of_methodNamed Bd.named, fun w hw => atoms_spec (ws := (.code yX2_becomeHalf cX2_becomeHalf 1 (some .boolean) :: io_tb)) Bd.pre w (List.mem_cons_of_mem _ hw)⟩
  have hr := Bd.returns
  have hlk := Bd.notSynchronized
  have hl := lv_entry ([.ref (ad h)]) (n := 1) (Nat.le_of_ble_eq_true rfl)
  rw [lg_entry_eq]
  generalize (lg_sl ([.ref (ad h)]) ++ List.replicate (1 - (lg_sl ([.ref (ad h)])).length) Slot.unset).toArray = ls at hl ⊢
  have hl : lv_has ls 1 [(0, .ref (ad h))] := hl
  show W p l e (io_rm 0) s m _ below meth c s.heap [] 0 0 _ (F0 m 0 ls [])
  unfold wp_X2_becomeHalf at hw
  refine lv_aload_n B.1 B.2.1 dX2_becomeHalf_0 rfl (lv_at hl 0 rfl) ?_
  refine io_g_2_7 B Z hh dX2_becomeHalf_1 ?_
  refine lv_if_ne (tgt := 14) B.1 B.2.1 dX2_becomeHalf_4 (by decide) (fun k2 => ?_) (fun k2 => ?_)
  · have hw := hw.2 k2
    refine lv_iconst (v := 0) B.1 B.2.1 dX2_becomeHalf_14 (by decide) ?_
    exact io_ret_z B Z hr hlk (Or.inl rfl) hw dX2_becomeHalf_15
  · have hw := hw.1 k2
    refine lv_aload_n B.1 B.2.1 dX2_becomeHalf_7 rfl (lv_at hl 0 rfl) ?_
    refine io_g_2_5 B Z hh dX2_becomeHalf_8 ?_
    refine lv_if_eq (tgt := 16) B.1 B.2.1 dX2_becomeHalf_11 (by decide) (fun k3 => ?_) (fun k3 => ?_)
    · have hw := hw.1 k3
      refine lv_aload_n B.1 B.2.1 dX2_becomeHalf_16 rfl (lv_at hl 0 rfl) ?_
      refine lv_iconst (v := 1) B.1 B.2.1 dX2_becomeHalf_17 (by decide) ?_
      refine io_p_2_7 B Z hh dX2_becomeHalf_18 (fun s4 H locs e5 Z => ?_)
      have hw := hw s4 e5
      refine lv_iconst (v := 1) B.1 B.2.1 dX2_becomeHalf_21 (by decide) ?_
      exact io_ret_z B Z hr hlk (Or.inr rfl) hw dX2_becomeHalf_22
    · have hw := hw.2 k3
      refine lv_iconst (v := 0) B.1 B.2.1 dX2_becomeHalf_14 (by decide) ?_
      exact io_ret_z B Z hr hlk (Or.inl rfl) hw dX2_becomeHalf_15
def wp_X2_isClosed (σ : io_M) (h : Nat) (post : Int32 → io_M → Prop) : Prop := (((σ h 7) = 2 → post 1 σ) ∧ (¬ ((σ h 7) = 2) → post 0 σ))
set_option maxHeartbeats 4000000 in
set_option maxRecDepth 100000 in
theorem io_c_X2_isClosed (l : Launch) (D : va_G) (ca : Nat → ClassId) (ad : Nat → Nat) (A : Nat → Prop) (σ : io_M) (h : Nat) (hh : h < 20) (post : Int32 → io_M → Prop) (hw : wp_X2_isClosed σ h post) : Met l yX2_isClosed (.code yX2_isClosed cX2_isClosed 1 (some .boolean) :: io_tb) (io_rm 0) (va_Pc [.ref (ad h)] (io_W D ca ad A σ)) (va_Qi (fun r u => io_bl r ∧ post r u) (io_W D ca ad A) A) 0 0 A := by
  refine Met.ofW (cc := cX2_isClosed) (maxL := 1) (ret := (some .boolean)) (by decide) rfl ?_
  intro p e s m args below meth c s₁ Bd hml hv
  obtain ⟨rfl, hW0⟩ := hv
  have Z := io_Z.start hW0
  have B : CallFix p m c cX2_isClosed 1 s _ io_tb RX2 := ⟨Bd.exec, Bd.bytes, hml, findClass_of_methodNamed Bd.named, fun w hw => atoms_spec (ws := (.code yX2_isClosed cX2_isClosed 1 (some .boolean) :: io_tb)) Bd.pre w (List.mem_cons_of_mem _ hw)⟩
  have hr := Bd.returns
  have hlk := Bd.notSynchronized
  have hl := lv_entry ([.ref (ad h)]) (n := 1) (Nat.le_of_ble_eq_true rfl)
  rw [lg_entry_eq]
  generalize (lg_sl ([.ref (ad h)]) ++ List.replicate (1 - (lg_sl ([.ref (ad h)])).length) Slot.unset).toArray = ls at hl ⊢
  have hl : lv_has ls 1 [(0, .ref (ad h))] := hl
  show W p l e (io_rm 0) s m _ below meth c s.heap [] 0 0 _ (F0 m 0 ls [])
  unfold wp_X2_isClosed at hw
  refine lv_aload_n B.1 B.2.1 dX2_isClosed_0 rfl (lv_at hl 0 rfl) ?_
  refine io_g_2_7 B Z hh dX2_isClosed_1 ?_
  refine lv_iconst (v := 2) B.1 B.2.1 dX2_isClosed_4 (by decide) ?_
  refine lv_icmp_ne (tgt := 12) B.1 B.2.1 dX2_isClosed_5 (by decide) (fun k2 => ?_) (fun k2 => ?_)
  · have hw := hw.2 k2
    refine lv_iconst (v := 0) B.1 B.2.1 dX2_isClosed_12 (by decide) ?_
    exact io_ret_z B Z hr hlk (Or.inl rfl) hw dX2_isClosed_13
  · have hw := hw.1 k2
    refine lv_iconst (v := 1) B.1 B.2.1 dX2_isClosed_8 (by decide) ?_
    refine lv_goto (tgt := 13) B.1 B.2.1 dX2_isClosed_9 (by decide) ?_
    exact io_ret_z B Z hr hlk (Or.inr rfl) hw dX2_isClosed_13
def wp_X2_isDue (σ : io_M) (h : Nat) (p1 : Int32) (post : Int32 → io_M → Prop) : Prop := (((σ h 3) = 1 → ((p1 = 10 → post 1 σ) ∧ (¬ (p1 = 10) → (((σ h 2) < 20 → post 0 σ) ∧ (¬ ((σ h 2) < 20) → post 1 σ))))) ∧ (¬ ((σ h 3) = 1) → (((σ h 3) = 0 → post 1 σ) ∧ (¬ ((σ h 3) = 0) → (((σ h 2) < (σ h 3) → post 0 σ) ∧ (¬ ((σ h 2) < (σ h 3)) → post 1 σ))))))
set_option maxHeartbeats 4000000 in
set_option maxRecDepth 100000 in
theorem io_c_X2_isDue (l : Launch) (D : va_G) (ca : Nat → ClassId) (ad : Nat → Nat) (A : Nat → Prop) (σ : io_M) (h : Nat) (p1 : Int32) (hh : h < 20) (post : Int32 → io_M → Prop) (hw : wp_X2_isDue σ h p1 post) : Met l yX2_isDue (.code yX2_isDue cX2_isDue 2 (some .boolean) :: io_tb) (io_rm 0) (va_Pc [.ref (ad h), .int p1] (io_W D ca ad A σ)) (va_Qi (fun r u => io_bl r ∧ post r u) (io_W D ca ad A) A) 0 0 A := by
  refine Met.ofW (cc := cX2_isDue) (maxL := 2) (ret := (some .boolean)) (by decide) rfl ?_
  intro p e s m args below meth c s₁ Bd hml hv
  obtain ⟨rfl, hW0⟩ := hv
  have Z := io_Z.start hW0
  have B : CallFix p m c cX2_isDue 2 s _ io_tb RX2 := ⟨Bd.exec, Bd.bytes, hml, findClass_of_methodNamed Bd.named, fun w hw => atoms_spec (ws := (.code yX2_isDue cX2_isDue 2 (some .boolean) :: io_tb)) Bd.pre w (List.mem_cons_of_mem _ hw)⟩
  have hr := Bd.returns
  have hlk := Bd.notSynchronized
  have hl := lv_entry ([.ref (ad h), .int p1]) (n := 2) (Nat.le_of_ble_eq_true rfl)
  rw [lg_entry_eq]
  generalize (lg_sl ([.ref (ad h), .int p1]) ++ List.replicate (2 - (lg_sl ([.ref (ad h), .int p1])).length) Slot.unset).toArray = ls at hl ⊢
  have hl : lv_has ls 2 [(0, .ref (ad h)), (1, .int p1)] := hl
  show W p l e (io_rm 0) s m _ below meth c s.heap [] 0 0 _ (F0 m 0 ls [])
  unfold wp_X2_isDue at hw
  refine lv_aload_n B.1 B.2.1 dX2_isDue_0 rfl (lv_at hl 0 rfl) ?_
  refine io_g_2_3 B Z hh dX2_isDue_1 ?_
  refine lv_iconst (v := 1) B.1 B.2.1 dX2_isDue_4 (by decide) ?_
  refine lv_icmp_ne (tgt := 29) B.1 B.2.1 dX2_isDue_5 (by decide) (fun k2 => ?_) (fun k2 => ?_)
  · have hw := hw.2 k2
    refine lv_aload_n B.1 B.2.1 dX2_isDue_29 rfl (lv_at hl 0 rfl) ?_
    refine io_g_2_3 B Z hh dX2_isDue_30 ?_
    refine lv_if_eq (tgt := 47) B.1 B.2.1 dX2_isDue_33 (by decide) (fun k3 => ?_) (fun k3 => ?_)
    · have hw := hw.1 k3
      refine lv_iconst (v := 1) B.1 B.2.1 dX2_isDue_47 (by decide) ?_
      refine lv_goto (tgt := 52) B.1 B.2.1 dX2_isDue_48 (by decide) ?_
      exact io_ret_z B Z hr hlk (Or.inr rfl) hw dX2_isDue_52
    · have hw := hw.2 k3
      refine lv_aload_n B.1 B.2.1 dX2_isDue_36 rfl (lv_at hl 0 rfl) ?_
      refine io_g_2_2 B Z hh dX2_isDue_37 ?_
      refine lv_aload_n B.1 B.2.1 dX2_isDue_40 rfl (lv_at hl 0 rfl) ?_
      refine io_g_2_3 B Z hh dX2_isDue_41 ?_
      refine lv_icmp_lt (tgt := 51) B.1 B.2.1 dX2_isDue_44 (by decide) (fun k4 => ?_) (fun k4 => ?_)
      · have hw := hw.1 k4
        refine lv_iconst (v := 0) B.1 B.2.1 dX2_isDue_51 (by decide) ?_
        exact io_ret_z B Z hr hlk (Or.inl rfl) hw dX2_isDue_52
      · have hw := hw.2 k4
        refine lv_iconst (v := 1) B.1 B.2.1 dX2_isDue_47 (by decide) ?_
        refine lv_goto (tgt := 52) B.1 B.2.1 dX2_isDue_48 (by decide) ?_
        exact io_ret_z B Z hr hlk (Or.inr rfl) hw dX2_isDue_52
  · have hw := hw.1 k2
    refine lv_iload_n B.1 B.2.1 dX2_isDue_8 rfl (lv_at hl 1 rfl) ?_
    refine lv_bipush (v := 10) B.1 B.2.1 dX2_isDue_9 (by decide) ?_
    refine lv_icmp_eq (tgt := 23) B.1 B.2.1 dX2_isDue_11 (by decide) (fun k5 => ?_) (fun k5 => ?_)
    · have hw := hw.1 k5
      refine lv_iconst (v := 1) B.1 B.2.1 dX2_isDue_23 (by decide) ?_
      refine lv_goto (tgt := 28) B.1 B.2.1 dX2_isDue_24 (by decide) ?_
      exact io_ret_z B Z hr hlk (Or.inr rfl) hw dX2_isDue_28
    · have hw := hw.2 k5
      refine lv_aload_n B.1 B.2.1 dX2_isDue_14 rfl (lv_at hl 0 rfl) ?_
      refine io_g_2_2 B Z hh dX2_isDue_15 ?_
      refine lv_bipush (v := 20) B.1 B.2.1 dX2_isDue_18 (by decide) ?_
      refine lv_icmp_lt (tgt := 27) B.1 B.2.1 dX2_isDue_20 (by decide) (fun k6 => ?_) (fun k6 => ?_)
      · have hw := hw.1 k6
        refine lv_iconst (v := 0) B.1 B.2.1 dX2_isDue_27 (by decide) ?_
        exact io_ret_z B Z hr hlk (Or.inl rfl) hw dX2_isDue_28
      · have hw := hw.2 k6
        refine lv_iconst (v := 1) B.1 B.2.1 dX2_isDue_23 (by decide) ?_
        refine lv_goto (tgt := 28) B.1 B.2.1 dX2_isDue_24 (by decide) ?_
        exact io_ret_z B Z hr hlk (Or.inr rfl) hw dX2_isDue_28
def wp_X2_put (σ : io_M) (h : Nat) (p1 : Int32) (post : Int32 → io_M → Prop) : Prop := (((σ h 7) = 0 → (wp_X2_writes σ h (fun r5 s6 => ((r5 = 0 → (wp_X9_turned s6 4 (fun r9 s10 => post r9 s10))) ∧ (¬ (r5 = 0) → (((s6 h 2) < 20 → (vp_in (s6 h 2) 20 ∧ ∀ s12, s12 = io_up s6 (20 + h) ((s6 h 2)).toNatClampNeg ((p1 &&& 255)) → (∀ s14, s14 = io_up s12 h 2 ((s12 h 2) + 1) → (∀ s16, s16 = io_up s14 h 8 ((s14 h 8) + 1) → (wp_X2_isDue s16 h (p1 &&& 255) (fun r18 s19 => ((r18 = 0 → post 0 s19) ∧ (¬ (r18 = 0) → (wp_X2_flush s19 h (fun r22 s23 => post r22 s23)))))))))) ∧ (¬ ((s6 h 2) < 20) → (wp_X9_turned s6 4 (fun r24 s25 => post r24 s25))))))))) ∧ (¬ ((σ h 7) = 0) → (wp_X9_turned σ 4 (fun r3 s4 => post r3 s4))))
set_option maxHeartbeats 4000000 in
set_option maxRecDepth 100000 in
theorem io_c_X2_put (l : Launch) (D : va_G) (ca : Nat → ClassId) (ad : Nat → Nat) (A : Nat → Prop) (σ : io_M) (h : Nat) (p1 : Int32) (hh : h < 20) (post : Int32 → io_M → Prop) (hw : wp_X2_put σ h p1 post) : Met l yX2_put (.code yX2_put cX2_put 3 (some .int) :: io_tb) (io_rm 3) (va_Pc [.ref (ad h), .int p1] (io_W D ca ad A σ)) (va_Qi post (io_W D ca ad A) A) 0 0 A := by
  refine Met.ofW (cc := cX2_put) (maxL := 3) (ret := (some .int)) (by decide) rfl ?_
  intro p e s m args below meth c s₁ Bd hml hv
  obtain ⟨rfl, hW0⟩ := hv
  have Z := io_Z.start hW0
  have B : CallFix p m c cX2_put 3 s _ io_tb RX2 := ⟨Bd.exec, Bd.bytes, hml, findClass_of_methodNamed Bd.named, fun w hw => atoms_spec (ws := (.code yX2_put cX2_put 3 (some .int) :: io_tb)) Bd.pre w (List.mem_cons_of_mem _ hw)⟩
  have hr := Bd.returns
  have hlk := Bd.notSynchronized
  have hl := lv_entry ([.ref (ad h), .int p1]) (n := 3) (Nat.le_of_ble_eq_true rfl)
  rw [lg_entry_eq]
  generalize (lg_sl ([.ref (ad h), .int p1]) ++ List.replicate (3 - (lg_sl ([.ref (ad h), .int p1])).length) Slot.unset).toArray = ls at hl ⊢
  have hl : lv_has ls 3 [(0, .ref (ad h)), (1, .int p1)] := hl
  show W p l e (io_rm 3) s m _ below meth c s.heap [] 0 0 _ (F0 m 0 ls [])
  unfold wp_X2_put at hw
  refine lv_aload_n B.1 B.2.1 dX2_put_0 rfl (lv_at hl 0 rfl) ?_
  refine io_g_2_7 B Z hh dX2_put_1 ?_
  refine lv_if_ne (tgt := 23) B.1 B.2.1 dX2_put_4 (by decide) (fun k2 => ?_) (fun k2 => ?_)
  · have hw := hw.2 k2
    refine lv_iconst (v := 4) B.1 B.2.1 dX2_put_23 (by decide) ?_
    refine io_call_i Z (io_runN [.int 4] [] B Z (io_c_X9_turned l D ca ad A _ 4 _ hw) io_k_2_61 (io_hR (by decide) (by decide)) rfl hl.1 (Nat.le_of_ble_eq_true rfl) dX2_put_24 ⟨Nat.le_refl _, Nat.le_refl _⟩) (fun r3 s4 H locs hw Z => ?_)
    exact io_ret_i B Z hr hlk hw dX2_put_27
  · have hw := hw.1 k2
    refine lv_aload_n B.1 B.2.1 dX2_put_7 rfl (lv_at hl 0 rfl) ?_
    refine io_call_i Z (io_runV (ci := 2) (k := h) [] [] B Z (io_c_X2_writes l D ca ad A _ h hh _ hw) io_k_2_57 (io_hR (by decide) (by decide)) rfl (Nat.lt_trans hh (by decide)) (io_e2 hh _) rfl hl.1 (Nat.le_of_ble_eq_true rfl) dX2_put_8 ⟨Nat.le_refl _, Nat.le_refl _⟩) (fun r5 s6 H locs hw Z => ?_)
    obtain ⟨b7, hw⟩ := hw
    refine lv_if_eq (tgt := 23) B.1 B.2.1 dX2_put_11 (by decide) (fun k8 => ?_) (fun k8 => ?_)
    · have hw := hw.1 k8
      refine lv_iconst (v := 4) B.1 B.2.1 dX2_put_23 (by decide) ?_
      refine io_call_i Z (io_runN [.int 4] [] B Z (io_c_X9_turned l D ca ad A _ 4 _ hw) io_k_2_61 (io_hR (by decide) (by decide)) rfl hl.1 (Nat.le_of_ble_eq_true rfl) dX2_put_24 ⟨Nat.le_refl _, Nat.le_refl _⟩) (fun r9 s10 H locs hw Z => ?_)
      exact io_ret_i B Z hr hlk hw dX2_put_27
    · have hw := hw.2 k8
      refine lv_aload_n B.1 B.2.1 dX2_put_14 rfl (lv_at hl 0 rfl) ?_
      refine io_g_2_2 B Z hh dX2_put_15 ?_
      refine lv_bipush (v := 20) B.1 B.2.1 dX2_put_18 (by decide) ?_
      refine lv_icmp_lt (tgt := 28) B.1 B.2.1 dX2_put_20 (by decide) (fun k11 => ?_) (fun k11 => ?_)
      · have hw := hw.1 k11
        refine lv_iload_n B.1 B.2.1 dX2_put_28 rfl (lv_at hl 1 rfl) ?_
        refine lv_sipush (v := 255) B.1 B.2.1 dX2_put_29 (by decide) ?_
        refine lv_iand B.1 B.2.1 dX2_put_32 ?_
        refine lv_istore_n (lv' := [(2, .int (p1 &&& 255)), (0, .ref (ad h)), (1, .int p1)]) B.1 B.2.1 dX2_put_33 rfl hl (by decide) rfl (fun ls hl => ?_)
        refine lv_aload_n B.1 B.2.1 dX2_put_34 rfl (lv_at hl 1 rfl) ?_
        refine io_g_2_1 B Z hh dX2_put_35 ?_
        refine lv_aload_n B.1 B.2.1 dX2_put_38 rfl (lv_at hl 1 rfl) ?_
        refine io_g_2_2 B Z hh dX2_put_39 ?_
        refine lv_iload_n B.1 B.2.1 dX2_put_42 rfl (lv_at hl 0 rfl) ?_
        refine io_iast B Z (20 + h) (by have := hh; omega) (io_eB hh) hw.1 dX2_put_43 (fun s12 H locs e13 Z => ?_)
        have hw := hw.2 s12 e13
        refine lv_aload_n B.1 B.2.1 dX2_put_44 rfl (lv_at hl 1 rfl) ?_
        refine lv_dup B.1 B.2.1 dX2_put_45 rfl ?_
        refine io_g_2_2 B Z hh dX2_put_46 ?_
        refine lv_iconst (v := 1) B.1 B.2.1 dX2_put_49 (by decide) ?_
        refine lv_iadd B.1 B.2.1 dX2_put_50 ?_
        refine io_p_2_2 B Z hh dX2_put_51 (fun s14 H locs e15 Z => ?_)
        have hw := hw s14 e15
        refine lv_aload_n B.1 B.2.1 dX2_put_54 rfl (lv_at hl 1 rfl) ?_
        refine lv_dup B.1 B.2.1 dX2_put_55 rfl ?_
        refine io_g_2_8 B Z hh dX2_put_56 ?_
        refine lv_iconst (v := 1) B.1 B.2.1 dX2_put_59 (by decide) ?_
        refine lv_iadd B.1 B.2.1 dX2_put_60 ?_
        refine io_p_2_8 B Z hh dX2_put_61 (fun s16 H locs e17 Z => ?_)
        have hw := hw s16 e17
        refine lv_aload_n B.1 B.2.1 dX2_put_64 rfl (lv_at hl 1 rfl) ?_
        refine lv_iload_n B.1 B.2.1 dX2_put_65 rfl (lv_at hl 0 rfl) ?_
        refine io_call_i Z (io_runV (ci := 2) (k := h) [.int (p1 &&& 255)] [] B Z (io_c_X2_isDue l D ca ad A _ h (p1 &&& 255) hh _ hw) io_k_2_64 (io_hR (by decide) (by decide)) rfl (Nat.lt_trans hh (by decide)) (io_e2 hh _) rfl hl.1 (Nat.le_of_ble_eq_true rfl) dX2_put_66 ⟨Nat.le_refl _, Nat.le_refl _⟩) (fun r18 s19 H locs hw Z => ?_)
        obtain ⟨b20, hw⟩ := hw
        refine lv_if_eq (tgt := 79) B.1 B.2.1 dX2_put_69 (by decide) (fun k21 => ?_) (fun k21 => ?_)
        · have hw := hw.1 k21
          refine lv_iconst (v := 0) B.1 B.2.1 dX2_put_79 (by decide) ?_
          exact io_ret_i B Z hr hlk hw dX2_put_80
        · have hw := hw.2 k21
          refine lv_aload_n B.1 B.2.1 dX2_put_72 rfl (lv_at hl 1 rfl) ?_
          refine io_call_i Z (io_runV (ci := 2) (k := h) [] [] B Z (io_c_X2_flush l D ca ad A _ h hh _ hw) io_k_2_53 (io_hR (by decide) (by decide)) rfl (Nat.lt_trans hh (by decide)) (io_e2 hh _) rfl hl.1 (Nat.le_of_ble_eq_true rfl) dX2_put_73 ⟨Nat.le_refl _, Nat.le_refl _⟩) (fun r22 s23 H locs hw Z => ?_)
          refine lv_goto (tgt := 80) B.1 B.2.1 dX2_put_76 (by decide) ?_
          exact io_ret_i B Z hr hlk hw dX2_put_80
      · have hw := hw.2 k11
        refine lv_iconst (v := 4) B.1 B.2.1 dX2_put_23 (by decide) ?_
        refine io_call_i Z (io_runN [.int 4] [] B Z (io_c_X9_turned l D ca ad A _ 4 _ hw) io_k_2_61 (io_hR (by decide) (by decide)) rfl hl.1 (Nat.le_of_ble_eq_true rfl) dX2_put_24 ⟨Nat.le_refl _, Nat.le_refl _⟩) (fun r24 s25 H locs hw Z => ?_)
        exact io_ret_i B Z hr hlk hw dX2_put_27
def wp_X2_seek (σ : io_M) (h : Nat) (p1 : Int32) (post : Int32 → io_M → Prop) : Prop := (wp_X2_flush σ h (fun r2 s3 => ((r2 = 0 → (((s3 h 5) = 2 → (wp_X9_turned s3 4 (fun r6 s7 => post r6 s7))) ∧ (¬ ((s3 h 5) = 2) → ((p1 < 0 → (wp_X9_turned s3 4 (fun r9 s10 => post r9 s10))) ∧ (¬ (p1 < 0) → (wp_X1_lengthOf s3 (s3 h 4) (fun r11 s12 => ((p1 ≤ r11 → (∀ s14, s14 = io_up s12 h 6 p1 → post 0 s14)) ∧ (¬ (p1 ≤ r11) → (wp_X9_turned s12 4 (fun r16 s17 => post r16 s17))))))))))) ∧ (¬ (r2 = 0) → post r2 s3))))
set_option maxHeartbeats 4000000 in
set_option maxRecDepth 100000 in
theorem io_c_X2_seek (l : Launch) (D : va_G) (ca : Nat → ClassId) (ad : Nat → Nat) (A : Nat → Prop) (σ : io_M) (h : Nat) (p1 : Int32) (hh : h < 20) (post : Int32 → io_M → Prop) (hw : wp_X2_seek σ h p1 post) : Met l yX2_seek (.code yX2_seek cX2_seek 3 (some .int) :: io_tb) (io_rm 3) (va_Pc [.ref (ad h), .int p1] (io_W D ca ad A σ)) (va_Qi post (io_W D ca ad A) A) 0 0 A := by
  refine Met.ofW (cc := cX2_seek) (maxL := 3) (ret := (some .int)) (by decide) rfl ?_
  intro p e s m args below meth c s₁ Bd hml hv
  obtain ⟨rfl, hW0⟩ := hv
  have Z := io_Z.start hW0
  have B : CallFix p m c cX2_seek 3 s _ io_tb RX2 := ⟨Bd.exec, Bd.bytes, hml, findClass_of_methodNamed Bd.named, fun w hw => atoms_spec (ws := (.code yX2_seek cX2_seek 3 (some .int) :: io_tb)) Bd.pre w (List.mem_cons_of_mem _ hw)⟩
  have hr := Bd.returns
  have hlk := Bd.notSynchronized
  have hl := lv_entry ([.ref (ad h), .int p1]) (n := 3) (Nat.le_of_ble_eq_true rfl)
  rw [lg_entry_eq]
  generalize (lg_sl ([.ref (ad h), .int p1]) ++ List.replicate (3 - (lg_sl ([.ref (ad h), .int p1])).length) Slot.unset).toArray = ls at hl ⊢
  have hl : lv_has ls 3 [(0, .ref (ad h)), (1, .int p1)] := hl
  show W p l e (io_rm 3) s m _ below meth c s.heap [] 0 0 _ (F0 m 0 ls [])
  unfold wp_X2_seek at hw
  refine lv_aload_n B.1 B.2.1 dX2_seek_0 rfl (lv_at hl 0 rfl) ?_
  refine io_call_i Z (io_runV (ci := 2) (k := h) [] [] B Z (io_c_X2_flush l D ca ad A _ h hh _ hw) io_k_2_53 (io_hR (by decide) (by decide)) rfl (Nat.lt_trans hh (by decide)) (io_e2 hh _) rfl hl.1 (Nat.le_of_ble_eq_true rfl) dX2_seek_1 ⟨Nat.le_refl _, Nat.le_refl _⟩) (fun r2 s3 H locs hw Z => ?_)
  refine lv_istore_n (lv' := [(2, .int r2), (0, .ref (ad h)), (1, .int p1)]) B.1 B.2.1 dX2_seek_4 rfl hl (by decide) rfl (fun ls hl => ?_)
  refine lv_iload_n B.1 B.2.1 dX2_seek_5 rfl (lv_at hl 0 rfl) ?_
  refine lv_if_eq (tgt := 11) B.1 B.2.1 dX2_seek_6 (by decide) (fun k4 => ?_) (fun k4 => ?_)
  · have hw := hw.1 k4
    refine lv_aload_n B.1 B.2.1 dX2_seek_11 rfl (lv_at hl 1 rfl) ?_
    refine io_g_2_5 B Z hh dX2_seek_12 ?_
    refine lv_iconst (v := 2) B.1 B.2.1 dX2_seek_15 (by decide) ?_
    refine lv_icmp_eq (tgt := 38) B.1 B.2.1 dX2_seek_16 (by decide) (fun k5 => ?_) (fun k5 => ?_)
    · have hw := hw.1 k5
      refine lv_iconst (v := 4) B.1 B.2.1 dX2_seek_38 (by decide) ?_
      refine io_call_i Z (io_runN [.int 4] [] B Z (io_c_X9_turned l D ca ad A _ 4 _ hw) io_k_2_61 (io_hR (by decide) (by decide)) rfl hl.1 (Nat.le_of_ble_eq_true rfl) dX2_seek_39 ⟨Nat.le_refl _, Nat.le_refl _⟩) (fun r6 s7 H locs hw Z => ?_)
      exact io_ret_i B Z hr hlk hw dX2_seek_42
    · have hw := hw.2 k5
      refine lv_iload_n B.1 B.2.1 dX2_seek_19 rfl (lv_at hl 2 rfl) ?_
      refine lv_if_lt (tgt := 38) B.1 B.2.1 dX2_seek_20 (by decide) (fun k8 => ?_) (fun k8 => ?_)
      · have hw := hw.1 k8
        refine lv_iconst (v := 4) B.1 B.2.1 dX2_seek_38 (by decide) ?_
        refine io_call_i Z (io_runN [.int 4] [] B Z (io_c_X9_turned l D ca ad A _ 4 _ hw) io_k_2_61 (io_hR (by decide) (by decide)) rfl hl.1 (Nat.le_of_ble_eq_true rfl) dX2_seek_39 ⟨Nat.le_refl _, Nat.le_refl _⟩) (fun r9 s10 H locs hw Z => ?_)
        exact io_ret_i B Z hr hlk hw dX2_seek_42
      · have hw := hw.2 k8
        refine lv_iload_n B.1 B.2.1 dX2_seek_23 rfl (lv_at hl 2 rfl) ?_
        refine lv_aload_n B.1 B.2.1 dX2_seek_24 rfl (lv_at hl 1 rfl) ?_
        refine io_g_2_0 B Z hh dX2_seek_25 ?_
        refine lv_aload_n B.1 B.2.1 dX2_seek_28 rfl (lv_at hl 1 rfl) ?_
        refine io_g_2_4 B Z hh dX2_seek_29 ?_
        refine io_call_i Z (io_runV (ci := 1) (k := 88) [.int (s3 h 4)] [.int p1] B Z (io_c_X1_lengthOf l D ca ad A _ (s3 h 4) _ hw) io_k_2_47 (io_hR (by decide) (by decide)) rfl (by decide) (io_e_88 _) rfl hl.1 (Nat.le_of_ble_eq_true rfl) dX2_seek_32 ⟨Nat.le_refl _, Nat.le_refl _⟩) (fun r11 s12 H locs hw Z => ?_)
        refine lv_icmp_le (tgt := 43) B.1 B.2.1 dX2_seek_35 (by decide) (fun k13 => ?_) (fun k13 => ?_)
        · have hw := hw.1 k13
          refine lv_aload_n B.1 B.2.1 dX2_seek_43 rfl (lv_at hl 1 rfl) ?_
          refine lv_iload_n B.1 B.2.1 dX2_seek_44 rfl (lv_at hl 2 rfl) ?_
          refine io_p_2_6 B Z hh dX2_seek_45 (fun s14 H locs e15 Z => ?_)
          have hw := hw s14 e15
          refine lv_iconst (v := 0) B.1 B.2.1 dX2_seek_48 (by decide) ?_
          exact io_ret_i B Z hr hlk hw dX2_seek_49
        · have hw := hw.2 k13
          refine lv_iconst (v := 4) B.1 B.2.1 dX2_seek_38 (by decide) ?_
          refine io_call_i Z (io_runN [.int 4] [] B Z (io_c_X9_turned l D ca ad A _ 4 _ hw) io_k_2_61 (io_hR (by decide) (by decide)) rfl hl.1 (Nat.le_of_ble_eq_true rfl) dX2_seek_39 ⟨Nat.le_refl _, Nat.le_refl _⟩) (fun r16 s17 H locs hw Z => ?_)
          exact io_ret_i B Z hr hlk hw dX2_seek_42
  · have hw := hw.2 k4
    refine lv_iload_n B.1 B.2.1 dX2_seek_9 rfl (lv_at hl 0 rfl) ?_
    exact io_ret_i B Z hr hlk hw dX2_seek_10
def wp_X2_endReading (σ : io_M) (h : Nat) (post : io_M → Prop) : Prop := (∀ s2, s2 = io_up σ h 7 2 → post s2)
set_option maxHeartbeats 4000000 in
set_option maxRecDepth 100000 in
theorem io_c_X2_endReading (l : Launch) (D : va_G) (ca : Nat → ClassId) (ad : Nat → Nat) (A : Nat → Prop) (σ : io_M) (h : Nat) (hh : h < 20) (post : io_M → Prop) (hw : wp_X2_endReading σ h post) : Met l yX2_endReading (.code yX2_endReading cX2_endReading 1 none :: io_tb) (io_rm 0) (va_Pc [.ref (ad h)] (io_W D ca ad A σ)) (va_Qv post (io_W D ca ad A) A) 0 0 A := by
  refine Met.ofW (cc := cX2_endReading) (maxL := 1) (ret := none) (by decide) rfl ?_
  intro p e s m args below meth c s₁ Bd hml hv
  obtain ⟨rfl, hW0⟩ := hv
  have Z := io_Z.start hW0
  have B : CallFix p m c cX2_endReading 1 s _ io_tb RX2 := ⟨Bd.exec, Bd.bytes, hml, findClass_of_methodNamed Bd.named, fun w hw => atoms_spec (ws := (.code yX2_endReading cX2_endReading 1 none :: io_tb)) Bd.pre w (List.mem_cons_of_mem _ hw)⟩
  have hr := Bd.returns
  have hlk := Bd.notSynchronized
  have hl := lv_entry ([.ref (ad h)]) (n := 1) (Nat.le_of_ble_eq_true rfl)
  rw [lg_entry_eq]
  generalize (lg_sl ([.ref (ad h)]) ++ List.replicate (1 - (lg_sl ([.ref (ad h)])).length) Slot.unset).toArray = ls at hl ⊢
  have hl : lv_has ls 1 [(0, .ref (ad h))] := hl
  show W p l e (io_rm 0) s m _ below meth c s.heap [] 0 0 _ (F0 m 0 ls [])
  unfold wp_X2_endReading at hw
  refine lv_aload_n B.1 B.2.1 dX2_endReading_0 rfl (lv_at hl 0 rfl) ?_
  refine lv_iconst (v := 2) B.1 B.2.1 dX2_endReading_1 (by decide) ?_
  refine io_p_2_7 B Z hh dX2_endReading_2 (fun s2 H locs e3 Z => ?_)
  have hw := hw s2 e3
  exact io_ret_v B Z hr hlk hw dX2_endReading_5
def wp_X2_isHalf (σ : io_M) (h : Nat) (post : Int32 → io_M → Prop) : Prop := (((σ h 7) = 1 → post 1 σ) ∧ (¬ ((σ h 7) = 1) → post 0 σ))
set_option maxHeartbeats 4000000 in
set_option maxRecDepth 100000 in
theorem io_c_X2_isHalf (l : Launch) (D : va_G) (ca : Nat → ClassId) (ad : Nat → Nat) (A : Nat → Prop) (σ : io_M) (h : Nat) (hh : h < 20) (post : Int32 → io_M → Prop) (hw : wp_X2_isHalf σ h post) : Met l yX2_isHalf (.code yX2_isHalf cX2_isHalf 1 (some .boolean) :: io_tb) (io_rm 0) (va_Pc [.ref (ad h)] (io_W D ca ad A σ)) (va_Qi (fun r u => io_bl r ∧ post r u) (io_W D ca ad A) A) 0 0 A := by
  refine Met.ofW (cc := cX2_isHalf) (maxL := 1) (ret := (some .boolean)) (by decide) rfl ?_
  intro p e s m args below meth c s₁ Bd hml hv
  obtain ⟨rfl, hW0⟩ := hv
  have Z := io_Z.start hW0
  have B : CallFix p m c cX2_isHalf 1 s _ io_tb RX2 := ⟨Bd.exec, Bd.bytes, hml, findClass_of_methodNamed Bd.named, fun w hw => atoms_spec (ws := (.code yX2_isHalf cX2_isHalf 1 (some .boolean) :: io_tb)) Bd.pre w (List.mem_cons_of_mem _ hw)⟩
  have hr := Bd.returns
  have hlk := Bd.notSynchronized
  have hl := lv_entry ([.ref (ad h)]) (n := 1) (Nat.le_of_ble_eq_true rfl)
  rw [lg_entry_eq]
  generalize (lg_sl ([.ref (ad h)]) ++ List.replicate (1 - (lg_sl ([.ref (ad h)])).length) Slot.unset).toArray = ls at hl ⊢
  have hl : lv_has ls 1 [(0, .ref (ad h))] := hl
  show W p l e (io_rm 0) s m _ below meth c s.heap [] 0 0 _ (F0 m 0 ls [])
  unfold wp_X2_isHalf at hw
  refine lv_aload_n B.1 B.2.1 dX2_isHalf_0 rfl (lv_at hl 0 rfl) ?_
  refine io_g_2_7 B Z hh dX2_isHalf_1 ?_
  refine lv_iconst (v := 1) B.1 B.2.1 dX2_isHalf_4 (by decide) ?_
  refine lv_icmp_ne (tgt := 12) B.1 B.2.1 dX2_isHalf_5 (by decide) (fun k2 => ?_) (fun k2 => ?_)
  · have hw := hw.2 k2
    refine lv_iconst (v := 0) B.1 B.2.1 dX2_isHalf_12 (by decide) ?_
    exact io_ret_z B Z hr hlk (Or.inl rfl) hw dX2_isHalf_13
  · have hw := hw.1 k2
    refine lv_iconst (v := 1) B.1 B.2.1 dX2_isHalf_8 (by decide) ?_
    refine lv_goto (tgt := 13) B.1 B.2.1 dX2_isHalf_9 (by decide) ?_
    exact io_ret_z B Z hr hlk (Or.inr rfl) hw dX2_isHalf_13
def wp_X2_fact (σ : io_M) (h : Nat) (p1 : Int32) (post : Int32 → io_M → Prop) : Prop := ((p1 = 0 → post (σ h 4) σ) ∧ (¬ (p1 = 0) → ((p1 = 1 → post (σ h 5) σ) ∧ (¬ (p1 = 1) → ((p1 = 2 → post (σ h 7) σ) ∧ (¬ (p1 = 2) → ((p1 = 3 → post (σ h 8) σ) ∧ (¬ (p1 = 3) → ((p1 = 4 → post (σ h 9) σ) ∧ (¬ (p1 = 4) → post (σ h 10) σ))))))))))
set_option maxHeartbeats 4000000 in
set_option maxRecDepth 100000 in
theorem io_c_X2_fact (l : Launch) (D : va_G) (ca : Nat → ClassId) (ad : Nat → Nat) (A : Nat → Prop) (σ : io_M) (h : Nat) (p1 : Int32) (hh : h < 20) (post : Int32 → io_M → Prop) (hw : wp_X2_fact σ h p1 post) : Met l yX2_fact (.code yX2_fact cX2_fact 2 (some .int) :: io_tb) (io_rm 0) (va_Pc [.ref (ad h), .int p1] (io_W D ca ad A σ)) (va_Qi post (io_W D ca ad A) A) 0 0 A := by
  refine Met.ofW (cc := cX2_fact) (maxL := 2) (ret := (some .int)) (by decide) rfl ?_
  intro p e s m args below meth c s₁ Bd hml hv
  obtain ⟨rfl, hW0⟩ := hv
  have Z := io_Z.start hW0
  have B : CallFix p m c cX2_fact 2 s _ io_tb RX2 := ⟨Bd.exec, Bd.bytes, hml, findClass_of_methodNamed Bd.named, fun w hw => atoms_spec (ws := (.code yX2_fact cX2_fact 2 (some .int) :: io_tb)) Bd.pre w (List.mem_cons_of_mem _ hw)⟩
  have hr := Bd.returns
  have hlk := Bd.notSynchronized
  have hl := lv_entry ([.ref (ad h), .int p1]) (n := 2) (Nat.le_of_ble_eq_true rfl)
  rw [lg_entry_eq]
  generalize (lg_sl ([.ref (ad h), .int p1]) ++ List.replicate (2 - (lg_sl ([.ref (ad h), .int p1])).length) Slot.unset).toArray = ls at hl ⊢
  have hl : lv_has ls 2 [(0, .ref (ad h)), (1, .int p1)] := hl
  show W p l e (io_rm 0) s m _ below meth c s.heap [] 0 0 _ (F0 m 0 ls [])
  unfold wp_X2_fact at hw
  refine lv_iload_n B.1 B.2.1 dX2_fact_0 rfl (lv_at hl 1 rfl) ?_
  rcases Classical.em (p1 = 0) with k2 | k2
  · have hw := hw.1 k2
    refine lv_tableIn (tgt := 36) (off := 35) B.1 B.2.1 dX2_fact_1 (by rw [k2]; decide) (by rw [k2]; decide) (by rw [k2]; decide) (by decide) ?_
    refine lv_aload_n B.1 B.2.1 dX2_fact_36 rfl (lv_at hl 0 rfl) ?_
    refine io_g_2_4 B Z hh dX2_fact_37 ?_
    exact io_ret_i B Z hr hlk hw dX2_fact_40
  have hw := hw.2 k2
  rcases Classical.em (p1 = 1) with k3 | k3
  · have hw := hw.1 k3
    refine lv_tableIn (tgt := 41) (off := 40) B.1 B.2.1 dX2_fact_1 (by rw [k3]; decide) (by rw [k3]; decide) (by rw [k3]; decide) (by decide) ?_
    refine lv_aload_n B.1 B.2.1 dX2_fact_41 rfl (lv_at hl 0 rfl) ?_
    refine io_g_2_5 B Z hh dX2_fact_42 ?_
    exact io_ret_i B Z hr hlk hw dX2_fact_45
  have hw := hw.2 k3
  rcases Classical.em (p1 = 2) with k4 | k4
  · have hw := hw.1 k4
    refine lv_tableIn (tgt := 46) (off := 45) B.1 B.2.1 dX2_fact_1 (by rw [k4]; decide) (by rw [k4]; decide) (by rw [k4]; decide) (by decide) ?_
    refine lv_aload_n B.1 B.2.1 dX2_fact_46 rfl (lv_at hl 0 rfl) ?_
    refine io_g_2_7 B Z hh dX2_fact_47 ?_
    exact io_ret_i B Z hr hlk hw dX2_fact_50
  have hw := hw.2 k4
  rcases Classical.em (p1 = 3) with k5 | k5
  · have hw := hw.1 k5
    refine lv_tableIn (tgt := 51) (off := 50) B.1 B.2.1 dX2_fact_1 (by rw [k5]; decide) (by rw [k5]; decide) (by rw [k5]; decide) (by decide) ?_
    refine lv_aload_n B.1 B.2.1 dX2_fact_51 rfl (lv_at hl 0 rfl) ?_
    refine io_g_2_8 B Z hh dX2_fact_52 ?_
    exact io_ret_i B Z hr hlk hw dX2_fact_55
  have hw := hw.2 k5
  rcases Classical.em (p1 = 4) with k6 | k6
  · have hw := hw.1 k6
    refine lv_tableIn (tgt := 56) (off := 55) B.1 B.2.1 dX2_fact_1 (by rw [k6]; decide) (by rw [k6]; decide) (by rw [k6]; decide) (by decide) ?_
    refine lv_aload_n B.1 B.2.1 dX2_fact_56 rfl (lv_at hl 0 rfl) ?_
    refine io_g_2_9 B Z hh dX2_fact_57 ?_
    exact io_ret_i B Z hr hlk hw dX2_fact_60
  have hw := hw.2 k6
  refine io_tswE (tgt := 61) (fun z => (([0, 1, 2, 3, 4] : List Int32).contains z) = true) B dX2_fact_1 (by decide) (by decide) (by decide) (by decide +kernel) (io_nc (List.forall_mem_cons.mpr ⟨fun q => k2 (q), (List.forall_mem_cons.mpr ⟨fun q => k3 (q), (List.forall_mem_cons.mpr ⟨fun q => k4 (q), (List.forall_mem_cons.mpr ⟨fun q => k5 (q), (List.forall_mem_cons.mpr ⟨fun q => k6 (q), (fun _ h => absurd h List.not_mem_nil)⟩)⟩)⟩)⟩)⟩)) ?_
  refine lv_aload_n B.1 B.2.1 dX2_fact_61 rfl (lv_at hl 0 rfl) ?_
  refine io_g_2_10 B Z hh dX2_fact_62 ?_
  exact io_ret_i B Z hr hlk hw dX2_fact_65
