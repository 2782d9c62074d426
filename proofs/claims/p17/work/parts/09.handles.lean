def wl_X3_closeBehindRun_2 : Nat → io_M → Int32 → (io_M → Prop) → Prop
  | 0, _, _, _ => False
  | n + 1, σ, x1, post => (((σ 101 2) ≤ x1 → post σ) ∧ (¬ ((σ 101 2) ≤ x1) → (vp_in x1 20 ∧ (wp_X2_isOpen σ ((x1).toNatClampNeg) (fun r103 s104 => ((r103 = 0 → wl_X3_closeBehindRun_2 n s104 (x1 + 1) post) ∧ (¬ (r103 = 0) → (vp_in x1 20 ∧ (wp_X2_flush s104 ((x1).toNatClampNeg) (fun r108 s109 => wl_X3_closeBehindRun_2 n s109 (x1 + 1) post))))))))))
def wp_X3_closeBehindRun (σ : io_M) (post : io_M → Prop) : Prop := (∃ n, wl_X3_closeBehindRun_2 n σ 0 post)
set_option maxHeartbeats 4000000 in
set_option maxRecDepth 100000 in
theorem io_c_X3_closeBehindRun (l : Launch) (D : va_G) (ca : Nat → ClassId) (ad : Nat → Nat) (A : Nat → Prop) (σ : io_M) (post : io_M → Prop) (hw : wp_X3_closeBehindRun σ post) : Met l yX3_closeBehindRun (.code yX3_closeBehindRun cX3_closeBehindRun 2 none :: io_tb) (io_rm 3) (va_Pc [.ref (ad 101)] (io_W D ca ad A σ)) (va_Qv post (io_W D ca ad A) A) 0 0 A := by
  refine Met.ofW (cc := cX3_closeBehindRun) (maxL := 2) (ret := none) (by decide) rfl ?_
  intro p e s m args below meth c s₁ Bd hml hv
  obtain ⟨rfl, hW0⟩ := hv
  have Z := io_Z.start hW0
  have B : CallFix p m c cX3_closeBehindRun 2 s _ io_tb RX3 := ⟨Bd.exec, Bd.bytes, hml, findClass_of_methodNamed Bd.named, fun w hw => atoms_spec (ws := (.code yX3_closeBehindRun cX3_closeBehindRun 2 none :: io_tb)) Bd.pre w (List.mem_cons_of_mem _ hw)⟩
  have hr := Bd.returns
  have hlk := Bd.notSynchronized
  have hl := lv_entry ([.ref (ad 101)]) (n := 2) (Nat.le_of_ble_eq_true rfl)
  rw [lg_entry_eq]
  generalize (lg_sl ([.ref (ad 101)]) ++ List.replicate (2 - (lg_sl ([.ref (ad 101)])).length) Slot.unset).toArray = ls at hl ⊢
  have hl : lv_has ls 2 [(0, .ref (ad 101))] := hl
  show W p l e (io_rm 3) s m _ below meth c s.heap [] 0 0 _ (F0 m 0 ls [])
  have LP2 : ∀ (n : Nat) (σ : io_M) (x1 : Int32), wl_X3_closeBehindRun_2 n σ x1 post → ∀ (H : Heap) (locs : List Loc), io_Z D ca ad A s H locs σ → ∀ ls : Array Slot, lv_has ls 2 [(0, .ref (ad 101)), (1, .int x1)] → W p l e (io_rm 3) s m ([.ref (ad 101)] : List Value).toArray below meth c H locs 0 0 (MQ below (va_Qv post (io_W D ca ad A) A) ([.ref (ad 101)] : List Value).toArray s 0 0 A) (F0 m 2 ls []) := by
    intro n
    induction n with
    | zero =>
      intro σ x1 hw
      exact hw.elim
    | succ n IH2 =>
      intro σ x1 hw H locs Z ls hl
      unfold wl_X3_closeBehindRun_2 at hw
      refine lv_iload_n B.1 B.2.1 dX3_closeBehindRun_2 rfl (lv_at hl 1 rfl) ?_
      refine lv_aload_n B.1 B.2.1 dX3_closeBehindRun_3 rfl (lv_at hl 0 rfl) ?_
      refine io_g_3_2 B Z dX3_closeBehindRun_4 ?_
      refine lv_icmp_ge (tgt := 38) B.1 B.2.1 dX3_closeBehindRun_7 (by decide) (fun k101 => ?_) (fun k101 => ?_)
      · have hw := hw.1 k101
        exact io_ret_v B Z hr hlk hw dX3_closeBehindRun_38
      · have hw := hw.2 k101
        refine lv_aload_n B.1 B.2.1 dX3_closeBehindRun_10 rfl (lv_at hl 0 rfl) ?_
        refine io_g_3_1 B Z dX3_closeBehindRun_11 ?_
        refine lv_iload_n B.1 B.2.1 dX3_closeBehindRun_14 rfl (lv_at hl 1 rfl) ?_
        have h102 := io_lt hw.1
        refine io_aldH B Z hw.1 dX3_closeBehindRun_15 ?_
        have hw := hw.2
        refine io_call_i Z (io_runV (ci := 2) (k := (x1).toNatClampNeg) [] [] B Z (io_c_X2_isOpen l D ca ad A _ ((x1).toNatClampNeg) h102 _ hw) io_k_3_83 (io_hR (by decide) (by decide)) rfl (Nat.lt_trans h102 (by decide)) (io_e2 h102 _) rfl hl.1 (Nat.le_of_ble_eq_true rfl) dX3_closeBehindRun_16 ⟨Nat.le_refl _, Nat.le_refl _⟩) (fun r103 s104 H locs hw Z => ?_)
        obtain ⟨b105, hw⟩ := hw
        refine lv_if_eq (tgt := 32) B.1 B.2.1 dX3_closeBehindRun_19 (by decide) (fun k106 => ?_) (fun k106 => ?_)
        · have hw := hw.1 k106
          refine lv_iinc (v := (x1 + 1)) (lv' := [(1, .int (x1 + 1)), (0, .ref (ad 101))]) B.1 B.2.1 dX3_closeBehindRun_32 hl (k := 1) rfl rfl (by decide) rfl (fun ls hl => ?_)
          refine lv_goto (tgt := 2) B.1 B.2.1 dX3_closeBehindRun_35 (by decide) ?_
          exact IH2 _ (x1 + 1) hw _ _ Z _ (lv_sub (l' := [(0, .ref (ad 101)), (1, .int (x1 + 1))]) hl [1, 0] rfl)
        · have hw := hw.2 k106
          refine lv_aload_n B.1 B.2.1 dX3_closeBehindRun_22 rfl (lv_at hl 0 rfl) ?_
          refine io_g_3_1 B Z dX3_closeBehindRun_23 ?_
          refine lv_iload_n B.1 B.2.1 dX3_closeBehindRun_26 rfl (lv_at hl 1 rfl) ?_
          have h107 := io_lt hw.1
          refine io_aldH B Z hw.1 dX3_closeBehindRun_27 ?_
          have hw := hw.2
          refine io_call_i Z (io_runV (ci := 2) (k := (x1).toNatClampNeg) [] [] B Z (io_c_X2_flush l D ca ad A _ ((x1).toNatClampNeg) h107 _ hw) io_k_3_86 (io_hR (by decide) (by decide)) rfl (Nat.lt_trans h107 (by decide)) (io_e2 h107 _) rfl hl.1 (Nat.le_of_ble_eq_true rfl) dX3_closeBehindRun_28 ⟨Nat.le_refl _, Nat.le_refl _⟩) (fun r108 s109 H locs hw Z => ?_)
          refine lv_pop B.1 B.2.1 dX3_closeBehindRun_31 rfl ?_
          refine lv_iinc (v := (x1 + 1)) (lv' := [(1, .int (x1 + 1)), (0, .ref (ad 101))]) B.1 B.2.1 dX3_closeBehindRun_32 hl (k := 1) rfl rfl (by decide) rfl (fun ls hl => ?_)
          refine lv_goto (tgt := 2) B.1 B.2.1 dX3_closeBehindRun_35 (by decide) ?_
          exact IH2 _ (x1 + 1) hw _ _ Z _ (lv_sub (l' := [(0, .ref (ad 101)), (1, .int (x1 + 1))]) hl [1, 0] rfl)
  unfold wp_X3_closeBehindRun at hw
  refine lv_iconst (v := 0) B.1 B.2.1 dX3_closeBehindRun_0 (by decide) ?_
  refine lv_istore_n (lv' := [(1, .int 0), (0, .ref (ad 101))]) B.1 B.2.1 dX3_closeBehindRun_1 rfl hl (by decide) rfl (fun ls hl => ?_)
  obtain ⟨n, hw⟩ := hw
  exact LP2 n _ 0 hw _ _ Z _ (lv_sub (l' := [(0, .ref (ad 101)), (1, .int 0)]) hl [1, 0] rfl)
def wp_X3_forget (σ : io_M) (post : io_M → Prop) : Prop := (∀ s2, s2 = io_up σ 101 2 0 → post s2)
set_option maxHeartbeats 4000000 in
set_option maxRecDepth 100000 in
theorem io_c_X3_forget (l : Launch) (D : va_G) (ca : Nat → ClassId) (ad : Nat → Nat) (A : Nat → Prop) (σ : io_M) (post : io_M → Prop) (hw : wp_X3_forget σ post) : Met l yX3_forget (.code yX3_forget cX3_forget 1 none :: io_tb) (io_rm 0) (va_Pc [.ref (ad 101)] (io_W D ca ad A σ)) (va_Qv post (io_W D ca ad A) A) 0 0 A := by
  refine Met.ofW (cc := cX3_forget) (maxL := 1) (ret := none) (by decide) rfl ?_
  intro p e s m args below meth c s₁ Bd hml hv
  obtain ⟨rfl, hW0⟩ := hv
  have Z := io_Z.start hW0
  have B : CallFix p m c cX3_forget 1 s _ io_tb RX3 := ⟨Bd.exec, Bd.bytes, hml, findClass_of_methodNamed Bd.named, fun w hw => atoms_spec (ws := (.code yX3_forget cX3_forget 1 none :: io_tb)) Bd.pre w (List.mem_cons_of_mem _ hw)⟩
  have hr := Bd.returns
  have hlk := Bd.notSynchronized
  have hl := lv_entry ([.ref (ad 101)]) (n := 1) (Nat.le_of_ble_eq_true rfl)
  rw [lg_entry_eq]
  generalize (lg_sl ([.ref (ad 101)]) ++ List.replicate (1 - (lg_sl ([.ref (ad 101)])).length) Slot.unset).toArray = ls at hl ⊢
  have hl : lv_has ls 1 [(0, .ref (ad 101))] := hl
  show W p l e (io_rm 0) s m _ below meth c s.heap [] 0 0 _ (F0 m 0 ls [])
  unfold wp_X3_forget at hw
  refine lv_aload_n B.1 B.2.1 dX3_forget_0 rfl (lv_at hl 0 rfl) ?_
  refine lv_iconst (v := 0) B.1 B.2.1 dX3_forget_1 (by decide) ?_
  refine io_p_3_2 B Z dX3_forget_2 (fun s2 H locs e3 Z => ?_)
  have hw := hw s2 e3
  exact io_ret_v B Z hr hlk hw dX3_forget_5
def wl_X3_isHeld_2 : Nat → io_M → Int32 → Int32 → Int32 → (Int32 → io_M → Prop) → Prop
  | 0, _, _, _, _, _ => False
  | n + 1, σ, x1, x2, x3, post => (((σ 101 2) ≤ x3 → post 0 σ) ∧ (¬ ((σ 101 2) ≤ x3) → (vp_in x3 20 ∧ (wp_X2_holds σ ((x3).toNatClampNeg) x1 (fun r103 s104 => ((r103 = 0 → wl_X3_isHeld_2 n s104 x1 x2 (x3 + 1) post) ∧ (¬ (r103 = 0) → (vp_in x3 20 ∧ (wp_X2_writes s104 ((x3).toNatClampNeg) (fun r108 s109 => ((r108 = 0 → ((x2 = 0 → post 1 s109) ∧ (¬ (x2 = 0) → wl_X3_isHeld_2 n s109 x1 x2 (x3 + 1) post))) ∧ (¬ (r108 = 0) → post 1 s109))))))))))))
def wp_X3_isHeld (σ : io_M) (p1 : Int32) (p2 : Int32) (post : Int32 → io_M → Prop) : Prop := (∃ n, wl_X3_isHeld_2 n σ p1 p2 0 post)
set_option maxHeartbeats 4000000 in
set_option maxRecDepth 100000 in
theorem io_c_X3_isHeld (l : Launch) (D : va_G) (ca : Nat → ClassId) (ad : Nat → Nat) (A : Nat → Prop) (σ : io_M) (p1 : Int32) (p2 : Int32) (post : Int32 → io_M → Prop) (hw : wp_X3_isHeld σ p1 p2 post) : Met l yX3_isHeld (.code yX3_isHeld cX3_isHeld 4 (some .boolean) :: io_tb) (io_rm 1) (va_Pc [.ref (ad 101), .int p1, .int p2] (io_W D ca ad A σ)) (va_Qi (fun r u => io_bl r ∧ post r u) (io_W D ca ad A) A) 0 0 A := by
  refine Met.ofW (cc := cX3_isHeld) (maxL := 4) (ret := (some .boolean)) (by decide) rfl ?_
  intro p e s m args below meth c s₁ Bd hml hv
  obtain ⟨rfl, hW0⟩ := hv
  have Z := io_Z.start hW0
  have B : CallFix p m c cX3_isHeld 4 s _ io_tb RX3 := ⟨Bd.exec, Bd.bytes, hml, findClass_of_methodNamed Bd.named, fun w hw => atoms_spec (ws := (.code yX3_isHeld cX3_isHeld 4 (some .boolean) :: io_tb)) Bd.pre w (List.mem_cons_of_mem _ hw)⟩
  have hr := Bd.returns
  have hlk := Bd.notSynchronized
  have hl := lv_entry ([.ref (ad 101), .int p1, .int p2]) (n := 4) (Nat.le_of_ble_eq_true rfl)
  rw [lg_entry_eq]
  generalize (lg_sl ([.ref (ad 101), .int p1, .int p2]) ++ List.replicate (4 - (lg_sl ([.ref (ad 101), .int p1, .int p2])).length) Slot.unset).toArray = ls at hl ⊢
  have hl : lv_has ls 4 [(0, .ref (ad 101)), (1, .int p1), (2, .int p2)] := hl
  show W p l e (io_rm 1) s m _ below meth c s.heap [] 0 0 _ (F0 m 0 ls [])
  have LP2 : ∀ (n : Nat) (σ : io_M) (x1 : Int32) (x2 : Int32) (x3 : Int32), wl_X3_isHeld_2 n σ x1 x2 x3 post → ∀ (H : Heap) (locs : List Loc), io_Z D ca ad A s H locs σ → ∀ ls : Array Slot, lv_has ls 4 [(0, .ref (ad 101)), (1, .int x1), (2, .int x2), (3, .int x3)] → W p l e (io_rm 1) s m ([.ref (ad 101), .int p1, .int p2] : List Value).toArray below meth c H locs 0 0 (MQ below (va_Qi (fun r u => io_bl r ∧ post r u) (io_W D ca ad A) A) ([.ref (ad 101), .int p1, .int p2] : List Value).toArray s 0 0 A) (F0 m 2 ls []) := by
    intro n
    induction n with
    | zero =>
      intro σ x1 x2 x3 hw
      exact hw.elim
    | succ n IH2 =>
      intro σ x1 x2 x3 hw H locs Z ls hl
      unfold wl_X3_isHeld_2 at hw
      refine lv_iload_n B.1 B.2.1 dX3_isHeld_2 rfl (lv_at hl 3 rfl) ?_
      refine lv_aload_n B.1 B.2.1 dX3_isHeld_3 rfl (lv_at hl 0 rfl) ?_
      refine io_g_3_2 B Z dX3_isHeld_4 ?_
      refine lv_icmp_ge (tgt := 47) B.1 B.2.1 dX3_isHeld_7 (by decide) (fun k101 => ?_) (fun k101 => ?_)
      · have hw := hw.1 k101
        refine lv_iconst (v := 0) B.1 B.2.1 dX3_isHeld_47 (by decide) ?_
        exact io_ret_z B Z hr hlk (Or.inl rfl) hw dX3_isHeld_48
      · have hw := hw.2 k101
        refine lv_aload_n B.1 B.2.1 dX3_isHeld_10 rfl (lv_at hl 0 rfl) ?_
        refine io_g_3_1 B Z dX3_isHeld_11 ?_
        refine lv_iload_n B.1 B.2.1 dX3_isHeld_14 rfl (lv_at hl 3 rfl) ?_
        have h102 := io_lt hw.1
        refine io_aldH B Z hw.1 dX3_isHeld_15 ?_
        have hw := hw.2
        refine lv_iload_n B.1 B.2.1 dX3_isHeld_16 rfl (lv_at hl 1 rfl) ?_
        refine io_call_i Z (io_runV (ci := 2) (k := (x3).toNatClampNeg) [.int x1] [] B Z (io_c_X2_holds l D ca ad A _ ((x3).toNatClampNeg) x1 h102 _ hw) io_k_3_67 (io_hR (by decide) (by decide)) rfl (Nat.lt_trans h102 (by decide)) (io_e2 h102 _) rfl hl.1 (Nat.le_of_ble_eq_true rfl) dX3_isHeld_17 ⟨Nat.le_refl _, Nat.le_refl _⟩) (fun r103 s104 H locs hw Z => ?_)
        obtain ⟨b105, hw⟩ := hw
        refine lv_if_eq (tgt := 41) B.1 B.2.1 dX3_isHeld_20 (by decide) (fun k106 => ?_) (fun k106 => ?_)
        · have hw := hw.1 k106
          refine lv_iinc (v := (x3 + 1)) (lv' := [(3, .int (x3 + 1)), (0, .ref (ad 101)), (1, .int x1), (2, .int x2)]) B.1 B.2.1 dX3_isHeld_41 hl (k := 3) rfl rfl (by decide) rfl (fun ls hl => ?_)
          refine lv_goto (tgt := 2) B.1 B.2.1 dX3_isHeld_44 (by decide) ?_
          exact IH2 _ x1 x2 (x3 + 1) hw _ _ Z _ (lv_sub (l' := [(0, .ref (ad 101)), (1, .int x1), (2, .int x2), (3, .int (x3 + 1))]) hl [1, 2, 3, 0] rfl)
        · have hw := hw.2 k106
          refine lv_aload_n B.1 B.2.1 dX3_isHeld_23 rfl (lv_at hl 0 rfl) ?_
          refine io_g_3_1 B Z dX3_isHeld_24 ?_
          refine lv_iload_n B.1 B.2.1 dX3_isHeld_27 rfl (lv_at hl 3 rfl) ?_
          have h107 := io_lt hw.1
          refine io_aldH B Z hw.1 dX3_isHeld_28 ?_
          have hw := hw.2
          refine io_call_i Z (io_runV (ci := 2) (k := (x3).toNatClampNeg) [] [] B Z (io_c_X2_writes l D ca ad A _ ((x3).toNatClampNeg) h107 _ hw) io_k_3_70 (io_hR (by decide) (by decide)) rfl (Nat.lt_trans h107 (by decide)) (io_e2 h107 _) rfl hl.1 (Nat.le_of_ble_eq_true rfl) dX3_isHeld_29 ⟨Nat.le_refl _, Nat.le_refl _⟩) (fun r108 s109 H locs hw Z => ?_)
          obtain ⟨b110, hw⟩ := hw
          refine lv_if_ne (tgt := 39) B.1 B.2.1 dX3_isHeld_32 (by decide) (fun k111 => ?_) (fun k111 => ?_)
          · have hw := hw.2 k111
            refine lv_iconst (v := 1) B.1 B.2.1 dX3_isHeld_39 (by decide) ?_
            exact io_ret_z B Z hr hlk (Or.inr rfl) hw dX3_isHeld_40
          · have hw := hw.1 k111
            refine lv_iload_n B.1 B.2.1 dX3_isHeld_35 rfl (lv_at hl 2 rfl) ?_
            refine lv_if_ne (tgt := 41) B.1 B.2.1 dX3_isHeld_36 (by decide) (fun k112 => ?_) (fun k112 => ?_)
            · have hw := hw.2 k112
              refine lv_iinc (v := (x3 + 1)) (lv' := [(3, .int (x3 + 1)), (0, .ref (ad 101)), (1, .int x1), (2, .int x2)]) B.1 B.2.1 dX3_isHeld_41 hl (k := 3) rfl rfl (by decide) rfl (fun ls hl => ?_)
              refine lv_goto (tgt := 2) B.1 B.2.1 dX3_isHeld_44 (by decide) ?_
              exact IH2 _ x1 x2 (x3 + 1) hw _ _ Z _ (lv_sub (l' := [(0, .ref (ad 101)), (1, .int x1), (2, .int x2), (3, .int (x3 + 1))]) hl [1, 2, 3, 0] rfl)
            · have hw := hw.1 k112
              refine lv_iconst (v := 1) B.1 B.2.1 dX3_isHeld_39 (by decide) ?_
              exact io_ret_z B Z hr hlk (Or.inr rfl) hw dX3_isHeld_40
  unfold wp_X3_isHeld at hw
  refine lv_iconst (v := 0) B.1 B.2.1 dX3_isHeld_0 (by decide) ?_
  refine lv_istore_n (lv' := [(3, .int 0), (0, .ref (ad 101)), (1, .int p1), (2, .int p2)]) B.1 B.2.1 dX3_isHeld_1 rfl hl (by decide) rfl (fun ls hl => ?_)
  obtain ⟨n, hw⟩ := hw
  exact LP2 n _ p1 p2 0 hw _ _ Z _ (lv_sub (l' := [(0, .ref (ad 101)), (1, .int p1), (2, .int p2), (3, .int 0)]) hl [1, 2, 3, 0] rfl)
def wj_X3_refusalToOpen_81 (σ : io_M) (y0 : Int32) (y1 : Int32) (post : Int32 → io_M → Prop) : Prop := (wp_X3_isHeld σ y1 y0 (fun r101 s102 => ((r101 = 0 → (((s102 101 2) < 20 → post 0 s102) ∧ (¬ ((s102 101 2) < 20) → (wp_X9_turned s102 5 (fun r106 s107 => post r106 s107))))) ∧ (¬ (r101 = 0) → (wp_X9_turned s102 0 (fun r108 s109 => post r108 s109))))))
def wj_X3_refusalToOpen_70 (σ : io_M) (x1 : Int32) (x3 : Int32) (post : Int32 → io_M → Prop) : Prop := ((x3 = 0 → wj_X3_refusalToOpen_81 σ 1 x1 post) ∧ (¬ (x3 = 0) → wj_X3_refusalToOpen_81 σ 0 x1 post))
def wj_X3_refusalToOpen_49 (σ : io_M) (x1 : Int32) (x3 : Int32) (post : Int32 → io_M → Prop) : Prop := ((x3 = 0 → wj_X3_refusalToOpen_70 σ x1 x3 post) ∧ (¬ (x3 = 0) → (wp_X1_grants σ x1 2 (fun r302 s303 => ((r302 = 0 → (wp_X9_turned s303 2 (fun r306 s307 => post r306 s307))) ∧ (¬ (r302 = 0) → wj_X3_refusalToOpen_70 s303 x1 x3 post))))))
def wj_X3_refusalToOpen_30 (σ : io_M) (x1 : Int32) (x2 : Int32) (x3 : Int32) (post : Int32 → io_M → Prop) : Prop := (wp_X9_mayTake σ x2 (fun r401 s402 => ((r401 = 0 → wj_X3_refusalToOpen_49 s402 x1 x3 post) ∧ (¬ (r401 = 0) → (wp_X1_grants s402 x1 1 (fun r405 s406 => ((r405 = 0 → (wp_X9_turned s406 2 (fun r409 s410 => post r409 s410))) ∧ (¬ (r405 = 0) → wj_X3_refusalToOpen_49 s406 x1 x3 post))))))))
def wj_X3_refusalToOpen_9 (σ : io_M) (x1 : Int32) (x2 : Int32) (y0 : Int32) (post : Int32 → io_M → Prop) : Prop := ((y0 = 0 → (wp_X1_isThere σ x1 (fun r502 s503 => ((r502 = 0 → (wp_X9_turned s503 1 (fun r506 s507 => post r506 s507))) ∧ (¬ (r502 = 0) → wj_X3_refusalToOpen_30 s503 x1 x2 y0 post))))) ∧ (¬ (y0 = 0) → wj_X3_refusalToOpen_30 σ x1 x2 y0 post))
def wp_X3_refusalToOpen (σ : io_M) (p1 : Int32) (p2 : Int32) (post : Int32 → io_M → Prop) : Prop := ((p2 = 0 → wj_X3_refusalToOpen_9 σ p1 p2 0 post) ∧ (¬ (p2 = 0) → wj_X3_refusalToOpen_9 σ p1 p2 1 post))
set_option maxHeartbeats 4000000 in
set_option maxRecDepth 100000 in
theorem io_c_X3_refusalToOpen (l : Launch) (D : va_G) (ca : Nat → ClassId) (ad : Nat → Nat) (A : Nat → Prop) (σ : io_M) (p1 : Int32) (p2 : Int32) (post : Int32 → io_M → Prop) (hw : wp_X3_refusalToOpen σ p1 p2 post) : Met l yX3_refusalToOpen (.code yX3_refusalToOpen cX3_refusalToOpen 4 (some .int) :: io_tb) (io_rm 2) (va_Pc [.ref (ad 101), .int p1, .int p2] (io_W D ca ad A σ)) (va_Qi post (io_W D ca ad A) A) 0 0 A := by
  refine Met.ofW (cc := cX3_refusalToOpen) (maxL := 4) (ret := (some .int)) (by decide) rfl ?_
  intro p e s m args below meth c s₁ Bd hml hv
  obtain ⟨rfl, hW0⟩ := hv
  have Z := io_Z.start hW0
  have B : CallFix p m c cX3_refusalToOpen 4 s _ io_tb RX3 := ⟨Bd.exec, Bd.bytes, hml, findClass_of_methodNamed Bd.named, fun w hw => atoms_spec (ws := (.code yX3_refusalToOpen cX3_refusalToOpen 4 (some .int) :: io_tb)) Bd.pre w (List.mem_cons_of_mem _ hw)⟩
  have hr := Bd.returns
  have hlk := Bd.notSynchronized
  have hl := lv_entry ([.ref (ad 101), .int p1, .int p2]) (n := 4) (Nat.le_of_ble_eq_true rfl)
  rw [lg_entry_eq]
  generalize (lg_sl ([.ref (ad 101), .int p1, .int p2]) ++ List.replicate (4 - (lg_sl ([.ref (ad 101), .int p1, .int p2])).length) Slot.unset).toArray = ls at hl ⊢
  have hl : lv_has ls 4 [(0, .ref (ad 101)), (1, .int p1), (2, .int p2)] := hl
  show W p l e (io_rm 2) s m _ below meth c s.heap [] 0 0 _ (F0 m 0 ls [])
  have JN81 : ∀ (σ : io_M) (y0 : Int32) (y1 : Int32), wj_X3_refusalToOpen_81 σ y0 y1 post → ∀ (H : Heap) (locs : List Loc), io_Z D ca ad A s H locs σ → ∀ ls : Array Slot, lv_has ls 4 [(0, .ref (ad 101))] → W p l e (io_rm 2) s m ([.ref (ad 101), .int p1, .int p2] : List Value).toArray below meth c H locs 0 0 (MQ below (va_Qi post (io_W D ca ad A) A) ([.ref (ad 101), .int p1, .int p2] : List Value).toArray s 0 0 A) (F0 m 81 ls [.int y0, .int y1, .ref (ad 101)]) := by
    intro σ y0 y1 hw H locs Z ls hl
    unfold wj_X3_refusalToOpen_81 at hw
    refine io_call_i Z (io_runV (ci := 3) (k := 101) [.int y1, .int y0] [] B Z (io_c_X3_isHeld l D ca ad A _ y1 y0 _ hw) io_k_3_63 (io_hR (by decide) (by decide)) rfl (by decide) (io_e_101 _) rfl hl.1 (Nat.le_of_ble_eq_true rfl) dX3_refusalToOpen_81 ⟨Nat.le_refl _, Nat.le_refl _⟩) (fun r101 s102 H locs hw Z => ?_)
    obtain ⟨b103, hw⟩ := hw
    refine lv_if_eq (tgt := 92) B.1 B.2.1 dX3_refusalToOpen_84 (by decide) (fun k104 => ?_) (fun k104 => ?_)
    · have hw := hw.1 k104
      refine lv_aload_n B.1 B.2.1 dX3_refusalToOpen_92 rfl (lv_at hl 0 rfl) ?_
      refine io_g_3_2 B Z dX3_refusalToOpen_93 ?_
      refine lv_bipush (v := 20) B.1 B.2.1 dX3_refusalToOpen_96 (by decide) ?_
      refine lv_icmp_lt (tgt := 108) B.1 B.2.1 dX3_refusalToOpen_98 (by decide) (fun k105 => ?_) (fun k105 => ?_)
      · have hw := hw.1 k105
        refine lv_iconst (v := 0) B.1 B.2.1 dX3_refusalToOpen_108 (by decide) ?_
        exact io_ret_i B Z hr hlk hw dX3_refusalToOpen_109
      · have hw := hw.2 k105
        refine lv_iconst (v := 5) B.1 B.2.1 dX3_refusalToOpen_101 (by decide) ?_
        refine io_call_i Z (io_runN [.int 5] [] B Z (io_c_X9_turned l D ca ad A _ 5 _ hw) io_k_3_53 (io_hR (by decide) (by decide)) rfl hl.1 (Nat.le_of_ble_eq_true rfl) dX3_refusalToOpen_102 ⟨Nat.le_refl _, Nat.le_refl _⟩) (fun r106 s107 H locs hw Z => ?_)
        refine lv_goto (tgt := 109) B.1 B.2.1 dX3_refusalToOpen_105 (by decide) ?_
        exact io_ret_i B Z hr hlk hw dX3_refusalToOpen_109
    · have hw := hw.2 k104
      refine lv_iconst (v := 0) B.1 B.2.1 dX3_refusalToOpen_87 (by decide) ?_
      refine io_call_i Z (io_runN [.int 0] [] B Z (io_c_X9_turned l D ca ad A _ 0 _ hw) io_k_3_53 (io_hR (by decide) (by decide)) rfl hl.1 (Nat.le_of_ble_eq_true rfl) dX3_refusalToOpen_88 ⟨Nat.le_refl _, Nat.le_refl _⟩) (fun r108 s109 H locs hw Z => ?_)
      exact io_ret_i B Z hr hlk hw dX3_refusalToOpen_91
  have JN70 : ∀ (σ : io_M) (x1 : Int32) (x3 : Int32), wj_X3_refusalToOpen_70 σ x1 x3 post → ∀ (H : Heap) (locs : List Loc), io_Z D ca ad A s H locs σ → ∀ ls : Array Slot, lv_has ls 4 [(0, .ref (ad 101)), (1, .int x1), (3, .int x3)] → W p l e (io_rm 2) s m ([.ref (ad 101), .int p1, .int p2] : List Value).toArray below meth c H locs 0 0 (MQ below (va_Qi post (io_W D ca ad A) A) ([.ref (ad 101), .int p1, .int p2] : List Value).toArray s 0 0 A) (F0 m 70 ls []) := by
    intro σ x1 x3 hw H locs Z ls hl
    unfold wj_X3_refusalToOpen_70 at hw
    refine lv_aload_n B.1 B.2.1 dX3_refusalToOpen_70 rfl (lv_at hl 0 rfl) ?_
    refine lv_iload_n B.1 B.2.1 dX3_refusalToOpen_71 rfl (lv_at hl 1 rfl) ?_
    refine lv_iload_n B.1 B.2.1 dX3_refusalToOpen_72 rfl (lv_at hl 2 rfl) ?_
    refine lv_if_ne (tgt := 80) B.1 B.2.1 dX3_refusalToOpen_73 (by decide) (fun k201 => ?_) (fun k201 => ?_)
    · have hw := hw.2 k201
      refine lv_iconst (v := 0) B.1 B.2.1 dX3_refusalToOpen_80 (by decide) ?_
      exact JN81 _ 0 x1 hw _ _ Z _ (lv_sub (l' := [(0, .ref (ad 101))]) hl [0] rfl)
    · have hw := hw.1 k201
      refine lv_iconst (v := 1) B.1 B.2.1 dX3_refusalToOpen_76 (by decide) ?_
      refine lv_goto (tgt := 81) B.1 B.2.1 dX3_refusalToOpen_77 (by decide) ?_
      exact JN81 _ 1 x1 hw _ _ Z _ (lv_sub (l' := [(0, .ref (ad 101))]) hl [0] rfl)
  have JN49 : ∀ (σ : io_M) (x1 : Int32) (x3 : Int32), wj_X3_refusalToOpen_49 σ x1 x3 post → ∀ (H : Heap) (locs : List Loc), io_Z D ca ad A s H locs σ → ∀ ls : Array Slot, lv_has ls 4 [(0, .ref (ad 101)), (1, .int x1), (3, .int x3)] → W p l e (io_rm 2) s m ([.ref (ad 101), .int p1, .int p2] : List Value).toArray below meth c H locs 0 0 (MQ below (va_Qi post (io_W D ca ad A) A) ([.ref (ad 101), .int p1, .int p2] : List Value).toArray s 0 0 A) (F0 m 49 ls []) := by
    intro σ x1 x3 hw H locs Z ls hl
    unfold wj_X3_refusalToOpen_49 at hw
    refine lv_iload_n B.1 B.2.1 dX3_refusalToOpen_49 rfl (lv_at hl 2 rfl) ?_
    refine lv_if_eq (tgt := 70) B.1 B.2.1 dX3_refusalToOpen_50 (by decide) (fun k301 => ?_) (fun k301 => ?_)
    · have hw := hw.1 k301
      exact JN70 _ x1 x3 hw _ _ Z _ (lv_sub (l' := [(0, .ref (ad 101)), (1, .int x1), (3, .int x3)]) hl [0, 1, 2] rfl)
    · have hw := hw.2 k301
      refine lv_aload_n B.1 B.2.1 dX3_refusalToOpen_53 rfl (lv_at hl 0 rfl) ?_
      refine io_g_3_0 B Z dX3_refusalToOpen_54 ?_
      refine lv_iload_n B.1 B.2.1 dX3_refusalToOpen_57 rfl (lv_at hl 1 rfl) ?_
      refine lv_iconst (v := 2) B.1 B.2.1 dX3_refusalToOpen_58 (by decide) ?_
      refine io_call_i Z (io_runV (ci := 1) (k := 88) [.int x1, .int 2] [] B Z (io_c_X1_grants l D ca ad A _ x1 2 _ hw) io_k_3_60 (io_hR (by decide) (by decide)) rfl (by decide) (io_e_88 _) rfl hl.1 (Nat.le_of_ble_eq_true rfl) dX3_refusalToOpen_59 ⟨Nat.le_refl _, Nat.le_refl _⟩) (fun r302 s303 H locs hw Z => ?_)
      obtain ⟨b304, hw⟩ := hw
      refine lv_if_ne (tgt := 70) B.1 B.2.1 dX3_refusalToOpen_62 (by decide) (fun k305 => ?_) (fun k305 => ?_)
      · have hw := hw.2 k305
        exact JN70 _ x1 x3 hw _ _ Z _ (lv_sub (l' := [(0, .ref (ad 101)), (1, .int x1), (3, .int x3)]) hl [0, 1, 2] rfl)
      · have hw := hw.1 k305
        refine lv_iconst (v := 2) B.1 B.2.1 dX3_refusalToOpen_65 (by decide) ?_
        refine io_call_i Z (io_runN [.int 2] [] B Z (io_c_X9_turned l D ca ad A _ 2 _ hw) io_k_3_53 (io_hR (by decide) (by decide)) rfl hl.1 (Nat.le_of_ble_eq_true rfl) dX3_refusalToOpen_66 ⟨Nat.le_refl _, Nat.le_refl _⟩) (fun r306 s307 H locs hw Z => ?_)
        exact io_ret_i B Z hr hlk hw dX3_refusalToOpen_69
  have JN30 : ∀ (σ : io_M) (x1 : Int32) (x2 : Int32) (x3 : Int32), wj_X3_refusalToOpen_30 σ x1 x2 x3 post → ∀ (H : Heap) (locs : List Loc), io_Z D ca ad A s H locs σ → ∀ ls : Array Slot, lv_has ls 4 [(0, .ref (ad 101)), (1, .int x1), (2, .int x2), (3, .int x3)] → W p l e (io_rm 2) s m ([.ref (ad 101), .int p1, .int p2] : List Value).toArray below meth c H locs 0 0 (MQ below (va_Qi post (io_W D ca ad A) A) ([.ref (ad 101), .int p1, .int p2] : List Value).toArray s 0 0 A) (F0 m 30 ls []) := by
    intro σ x1 x2 x3 hw H locs Z ls hl
    unfold wj_X3_refusalToOpen_30 at hw
    refine lv_iload_n B.1 B.2.1 dX3_refusalToOpen_30 rfl (lv_at hl 2 rfl) ?_
    refine io_call_i Z (io_runN [.int x2] [] B Z (io_c_X9_mayTake l D ca ad A _ x2 _ hw) io_k_3_57 (io_hR (by decide) (by decide)) rfl hl.1 (Nat.le_of_ble_eq_true rfl) dX3_refusalToOpen_31 ⟨Nat.le_refl _, Nat.le_refl _⟩) (fun r401 s402 H locs hw Z => ?_)
    obtain ⟨b403, hw⟩ := hw
    refine lv_if_eq (tgt := 49) B.1 B.2.1 dX3_refusalToOpen_34 (by decide) (fun k404 => ?_) (fun k404 => ?_)
    · have hw := hw.1 k404
      exact JN49 _ x1 x3 hw _ _ Z _ (lv_sub (l' := [(0, .ref (ad 101)), (1, .int x1), (3, .int x3)]) hl [0, 1, 3] rfl)
    · have hw := hw.2 k404
      refine lv_aload_n B.1 B.2.1 dX3_refusalToOpen_37 rfl (lv_at hl 0 rfl) ?_
      refine io_g_3_0 B Z dX3_refusalToOpen_38 ?_
      refine lv_iload_n B.1 B.2.1 dX3_refusalToOpen_41 rfl (lv_at hl 1 rfl) ?_
      refine lv_iconst (v := 1) B.1 B.2.1 dX3_refusalToOpen_42 (by decide) ?_
      refine io_call_i Z (io_runV (ci := 1) (k := 88) [.int x1, .int 1] [] B Z (io_c_X1_grants l D ca ad A _ x1 1 _ hw) io_k_3_60 (io_hR (by decide) (by decide)) rfl (by decide) (io_e_88 _) rfl hl.1 (Nat.le_of_ble_eq_true rfl) dX3_refusalToOpen_43 ⟨Nat.le_refl _, Nat.le_refl _⟩) (fun r405 s406 H locs hw Z => ?_)
      obtain ⟨b407, hw⟩ := hw
      refine lv_if_eq (tgt := 65) B.1 B.2.1 dX3_refusalToOpen_46 (by decide) (fun k408 => ?_) (fun k408 => ?_)
      · have hw := hw.1 k408
        refine lv_iconst (v := 2) B.1 B.2.1 dX3_refusalToOpen_65 (by decide) ?_
        refine io_call_i Z (io_runN [.int 2] [] B Z (io_c_X9_turned l D ca ad A _ 2 _ hw) io_k_3_53 (io_hR (by decide) (by decide)) rfl hl.1 (Nat.le_of_ble_eq_true rfl) dX3_refusalToOpen_66 ⟨Nat.le_refl _, Nat.le_refl _⟩) (fun r409 s410 H locs hw Z => ?_)
        exact io_ret_i B Z hr hlk hw dX3_refusalToOpen_69
      · have hw := hw.2 k408
        exact JN49 _ x1 x3 hw _ _ Z _ (lv_sub (l' := [(0, .ref (ad 101)), (1, .int x1), (3, .int x3)]) hl [0, 1, 3] rfl)
  have JN9 : ∀ (σ : io_M) (x1 : Int32) (x2 : Int32) (y0 : Int32), wj_X3_refusalToOpen_9 σ x1 x2 y0 post → ∀ (H : Heap) (locs : List Loc), io_Z D ca ad A s H locs σ → ∀ ls : Array Slot, lv_has ls 4 [(0, .ref (ad 101)), (1, .int x1), (2, .int x2)] → W p l e (io_rm 2) s m ([.ref (ad 101), .int p1, .int p2] : List Value).toArray below meth c H locs 0 0 (MQ below (va_Qi post (io_W D ca ad A) A) ([.ref (ad 101), .int p1, .int p2] : List Value).toArray s 0 0 A) (F0 m 9 ls [.int y0]) := by
    intro σ x1 x2 y0 hw H locs Z ls hl
    unfold wj_X3_refusalToOpen_9 at hw
    refine lv_istore_n (lv' := [(3, .int y0), (0, .ref (ad 101)), (1, .int x1), (2, .int x2)]) B.1 B.2.1 dX3_refusalToOpen_9 rfl hl (by decide) rfl (fun ls hl => ?_)
    refine lv_iload_n B.1 B.2.1 dX3_refusalToOpen_10 rfl (lv_at hl 0 rfl) ?_
    refine lv_if_ne (tgt := 30) B.1 B.2.1 dX3_refusalToOpen_11 (by decide) (fun k501 => ?_) (fun k501 => ?_)
    · have hw := hw.2 k501
      exact JN30 _ x1 x2 y0 hw _ _ Z _ (lv_sub (l' := [(0, .ref (ad 101)), (1, .int x1), (2, .int x2), (3, .int y0)]) hl [1, 2, 3, 0] rfl)
    · have hw := hw.1 k501
      refine lv_aload_n B.1 B.2.1 dX3_refusalToOpen_14 rfl (lv_at hl 1 rfl) ?_
      refine io_g_3_0 B Z dX3_refusalToOpen_15 ?_
      refine lv_iload_n B.1 B.2.1 dX3_refusalToOpen_18 rfl (lv_at hl 2 rfl) ?_
      refine io_call_i Z (io_runV (ci := 1) (k := 88) [.int x1] [] B Z (io_c_X1_isThere l D ca ad A _ x1 _ hw) io_k_3_49 (io_hR (by decide) (by decide)) rfl (by decide) (io_e_88 _) rfl hl.1 (Nat.le_of_ble_eq_true rfl) dX3_refusalToOpen_19 ⟨Nat.le_refl _, Nat.le_refl _⟩) (fun r502 s503 H locs hw Z => ?_)
      obtain ⟨b504, hw⟩ := hw
      refine lv_if_ne (tgt := 30) B.1 B.2.1 dX3_refusalToOpen_22 (by decide) (fun k505 => ?_) (fun k505 => ?_)
      · have hw := hw.2 k505
        exact JN30 _ x1 x2 y0 hw _ _ Z _ (lv_sub (l' := [(0, .ref (ad 101)), (1, .int x1), (2, .int x2), (3, .int y0)]) hl [1, 2, 3, 0] rfl)
      · have hw := hw.1 k505
        refine lv_iconst (v := 1) B.1 B.2.1 dX3_refusalToOpen_25 (by decide) ?_
        refine io_call_i Z (io_runN [.int 1] [] B Z (io_c_X9_turned l D ca ad A _ 1 _ hw) io_k_3_53 (io_hR (by decide) (by decide)) rfl hl.1 (Nat.le_of_ble_eq_true rfl) dX3_refusalToOpen_26 ⟨Nat.le_refl _, Nat.le_refl _⟩) (fun r506 s507 H locs hw Z => ?_)
        exact io_ret_i B Z hr hlk hw dX3_refusalToOpen_29
  unfold wp_X3_refusalToOpen at hw
  refine lv_iload_n B.1 B.2.1 dX3_refusalToOpen_0 rfl (lv_at hl 2 rfl) ?_
  refine lv_if_eq (tgt := 8) B.1 B.2.1 dX3_refusalToOpen_1 (by decide) (fun k2 => ?_) (fun k2 => ?_)
  · have hw := hw.1 k2
    refine lv_iconst (v := 0) B.1 B.2.1 dX3_refusalToOpen_8 (by decide) ?_
    exact JN9 _ p1 p2 0 hw _ _ Z _ (lv_sub (l' := [(0, .ref (ad 101)), (1, .int p1), (2, .int p2)]) hl [0, 1, 2] rfl)
  · have hw := hw.2 k2
    refine lv_iconst (v := 1) B.1 B.2.1 dX3_refusalToOpen_4 (by decide) ?_
    refine lv_goto (tgt := 9) B.1 B.2.1 dX3_refusalToOpen_5 (by decide) ?_
    exact JN9 _ p1 p2 1 hw _ _ Z _ (lv_sub (l' := [(0, .ref (ad 101)), (1, .int p1), (2, .int p2)]) hl [0, 1, 2] rfl)
def wj_X3_open_34 (σ : io_M) (x1 : Int32) (x2 : Int32) (post : Int32 → io_M → Prop) : Prop := (vp_in (σ 101 2) 20 ∧ (wp_X2_begin σ (((σ 101 2)).toNatClampNeg) x1 x2 (fun s103 => (∀ s104, s104 = io_up s103 101 2 ((s103 101 2) + 1) → post ((s104 101 2) - 1) s104))))
def wp_X3_open (σ : io_M) (p1 : Int32) (p2 : Int32) (post : Int32 → io_M → Prop) : Prop := (wp_X3_refusalToOpen σ p1 p2 (fun r2 s3 => ((r2 = 0 → (wp_X1_create s3 p1 (fun s6 => ((p2 = 1 → (wp_X1_makeEmpty s6 p1 (fun s9 => wj_X3_open_34 s9 p1 p2 post))) ∧ (¬ (p2 = 1) → wj_X3_open_34 s6 p1 p2 post))))) ∧ (¬ (r2 = 0) → post r2 s3))))
set_option maxHeartbeats 4000000 in
set_option maxRecDepth 100000 in
theorem io_c_X3_open (l : Launch) (D : va_G) (ca : Nat → ClassId) (ad : Nat → Nat) (A : Nat → Prop) (σ : io_M) (p1 : Int32) (p2 : Int32) (post : Int32 → io_M → Prop) (hw : wp_X3_open σ p1 p2 post) : Met l yX3_open (.code yX3_open cX3_open 4 (some .int) :: io_tb) (io_rm 3) (va_Pc [.ref (ad 101), .int p1, .int p2] (io_W D ca ad A σ)) (va_Qi post (io_W D ca ad A) A) 0 0 A := by
  refine Met.ofW (cc := cX3_open) (maxL := 4) (ret := (some .int)) (by decide) rfl ?_
  intro p e s m args below meth c s₁ Bd hml hv
  obtain ⟨rfl, hW0⟩ := hv
  have Z := io_Z.start hW0
  have B : CallFix p m c cX3_open 4 s _ io_tb RX3 := ⟨Bd.exec, Bd.bytes, hml, findClass_of_methodNamed Bd.named, fun w hw => atoms_spec (ws := (.code yX3_open cX3_open 4 (some .int) :: io_tb)) Bd.pre w (List.mem_cons_of_mem _ hw)⟩
  have hr := Bd.returns
  have hlk := Bd.notSynchronized
  have hl := lv_entry ([.ref (ad 101), .int p1, .int p2]) (n := 4) (Nat.le_of_ble_eq_true rfl)
  rw [lg_entry_eq]
  generalize (lg_sl ([.ref (ad 101), .int p1, .int p2]) ++ List.replicate (4 - (lg_sl ([.ref (ad 101), .int p1, .int p2])).length) Slot.unset).toArray = ls at hl ⊢
  have hl : lv_has ls 4 [(0, .ref (ad 101)), (1, .int p1), (2, .int p2)] := hl
  show W p l e (io_rm 3) s m _ below meth c s.heap [] 0 0 _ (F0 m 0 ls [])
  have JN34 : ∀ (σ : io_M) (x1 : Int32) (x2 : Int32), wj_X3_open_34 σ x1 x2 post → ∀ (H : Heap) (locs : List Loc), io_Z D ca ad A s H locs σ → ∀ ls : Array Slot, lv_has ls 4 [(0, .ref (ad 101)), (1, .int x1), (2, .int x2)] → W p l e (io_rm 3) s m ([.ref (ad 101), .int p1, .int p2] : List Value).toArray below meth c H locs 0 0 (MQ below (va_Qi post (io_W D ca ad A) A) ([.ref (ad 101), .int p1, .int p2] : List Value).toArray s 0 0 A) (F0 m 34 ls []) := by
    intro σ x1 x2 hw H locs Z ls hl
    unfold wj_X3_open_34 at hw
    refine lv_aload_n B.1 B.2.1 dX3_open_34 rfl (lv_at hl 0 rfl) ?_
    refine io_g_3_1 B Z dX3_open_35 ?_
    refine lv_aload_n B.1 B.2.1 dX3_open_38 rfl (lv_at hl 0 rfl) ?_
    refine io_g_3_2 B Z dX3_open_39 ?_
    have h101 := io_lt hw.1
    refine io_aldH B Z hw.1 dX3_open_42 ?_
    have hw := hw.2
    refine lv_iload_n B.1 B.2.1 dX3_open_43 rfl (lv_at hl 1 rfl) ?_
    refine lv_iload_n B.1 B.2.1 dX3_open_44 rfl (lv_at hl 2 rfl) ?_
    refine io_call_v Z (io_runV (ci := 2) (k := ((σ 101 2)).toNatClampNeg) [.int x1, .int x2] [] B Z (io_c_X2_begin l D ca ad A _ (((σ 101 2)).toNatClampNeg) x1 x2 h101 _ hw) io_k_3_45 (io_hR (by decide) (by decide)) rfl (Nat.lt_trans h101 (by decide)) (io_e2 h101 _) rfl hl.1 (Nat.le_of_ble_eq_true rfl) dX3_open_45 ⟨Nat.le_refl _, Nat.le_refl _⟩) (fun s103 H locs hw Z => ?_)
    refine lv_aload_n B.1 B.2.1 dX3_open_48 rfl (lv_at hl 0 rfl) ?_
    refine lv_dup B.1 B.2.1 dX3_open_49 rfl ?_
    refine io_g_3_2 B Z dX3_open_50 ?_
    refine lv_iconst (v := 1) B.1 B.2.1 dX3_open_53 (by decide) ?_
    refine lv_iadd B.1 B.2.1 dX3_open_54 ?_
    refine io_p_3_2 B Z dX3_open_55 (fun s104 H locs e105 Z => ?_)
    have hw := hw s104 e105
    refine lv_aload_n B.1 B.2.1 dX3_open_58 rfl (lv_at hl 0 rfl) ?_
    refine io_g_3_2 B Z dX3_open_59 ?_
    refine lv_iconst (v := 1) B.1 B.2.1 dX3_open_62 (by decide) ?_
    refine lv_isub B.1 B.2.1 dX3_open_63 ?_
    exact io_ret_i B Z hr hlk hw dX3_open_64
  unfold wp_X3_open at hw
  refine lv_aload_n B.1 B.2.1 dX3_open_0 rfl (lv_at hl 0 rfl) ?_
  refine lv_iload_n B.1 B.2.1 dX3_open_1 rfl (lv_at hl 1 rfl) ?_
  refine lv_iload_n B.1 B.2.1 dX3_open_2 rfl (lv_at hl 2 rfl) ?_
  refine io_call_i Z (io_runV (ci := 3) (k := 101) [.int p1, .int p2] [] B Z (io_c_X3_refusalToOpen l D ca ad A _ p1 p2 _ hw) io_k_3_32 (io_hR (by decide) (by decide)) rfl (by decide) (io_e_101 _) rfl hl.1 (Nat.le_of_ble_eq_true rfl) dX3_open_3 ⟨Nat.le_refl _, Nat.le_refl _⟩) (fun r2 s3 H locs hw Z => ?_)
  refine lv_istore_n (lv' := [(3, .int r2), (0, .ref (ad 101)), (1, .int p1), (2, .int p2)]) B.1 B.2.1 dX3_open_6 rfl hl (by decide) rfl (fun ls hl => ?_)
  refine lv_iload_n B.1 B.2.1 dX3_open_7 rfl (lv_at hl 0 rfl) ?_
  refine lv_if_eq (tgt := 13) B.1 B.2.1 dX3_open_8 (by decide) (fun k4 => ?_) (fun k4 => ?_)
  · have hw := hw.1 k4
    refine lv_aload_n B.1 B.2.1 dX3_open_13 rfl (lv_at hl 1 rfl) ?_
    refine io_g_3_0 B Z dX3_open_14 ?_
    refine lv_iload_n B.1 B.2.1 dX3_open_17 rfl (lv_at hl 2 rfl) ?_
    refine io_call_v Z (io_runV (ci := 1) (k := 88) [.int p1] [] B Z (io_c_X1_create l D ca ad A _ p1 _ hw) io_k_3_36 (io_hR (by decide) (by decide)) rfl (by decide) (io_e_88 _) rfl hl.1 (Nat.le_of_ble_eq_true rfl) dX3_open_18 ⟨Nat.le_refl _, Nat.le_refl _⟩) (fun s6 H locs hw Z => ?_)
    refine lv_iload_n B.1 B.2.1 dX3_open_21 rfl (lv_at hl 3 rfl) ?_
    refine lv_iconst (v := 1) B.1 B.2.1 dX3_open_22 (by decide) ?_
    refine lv_icmp_ne (tgt := 34) B.1 B.2.1 dX3_open_23 (by decide) (fun k7 => ?_) (fun k7 => ?_)
    · have hw := hw.2 k7
      exact JN34 _ p1 p2 hw _ _ Z _ (lv_sub (l' := [(0, .ref (ad 101)), (1, .int p1), (2, .int p2)]) hl [1, 2, 3] rfl)
    · have hw := hw.1 k7
      refine lv_aload_n B.1 B.2.1 dX3_open_26 rfl (lv_at hl 1 rfl) ?_
      refine io_g_3_0 B Z dX3_open_27 ?_
      refine lv_iload_n B.1 B.2.1 dX3_open_30 rfl (lv_at hl 2 rfl) ?_
      refine io_call_v Z (io_runV (ci := 1) (k := 88) [.int p1] [] B Z (io_c_X1_makeEmpty l D ca ad A _ p1 _ hw) io_k_3_42 (io_hR (by decide) (by decide)) rfl (by decide) (io_e_88 _) rfl hl.1 (Nat.le_of_ble_eq_true rfl) dX3_open_31 ⟨Nat.le_refl _, Nat.le_refl _⟩) (fun s9 H locs hw Z => ?_)
      exact JN34 _ p1 p2 hw _ _ Z _ (lv_sub (l' := [(0, .ref (ad 101)), (1, .int p1), (2, .int p2)]) hl [1, 2, 3] rfl)
  · have hw := hw.2 k4
    refine lv_iload_n B.1 B.2.1 dX3_open_11 rfl (lv_at hl 0 rfl) ?_
    exact io_ret_i B Z hr hlk hw dX3_open_12
def wp_X3_refusalToMove (σ : io_M) (p1 : Int32) (p2 : Int32) (post : Int32 → io_M → Prop) : Prop := (wp_X1_isThere σ p1 (fun r2 s3 => ((r2 = 0 → (wp_X9_turned s3 1 (fun r30 s31 => post r30 s31))) ∧ (¬ (r2 = 0) → (wp_X1_grants s3 p1 2 (fun r6 s7 => ((r6 = 0 → (wp_X9_turned s7 2 (fun r10 s11 => post r10 s11))) ∧ (¬ (r6 = 0) → (wp_X1_grants s7 p2 2 (fun r12 s13 => ((r12 = 0 → (wp_X9_turned s13 2 (fun r28 s29 => post r28 s29))) ∧ (¬ (r12 = 0) → (wp_X3_isHeld s13 p1 0 (fun r16 s17 => ((r16 = 0 → (wp_X3_isHeld s17 p2 0 (fun r22 s23 => ((r22 = 0 → post 0 s23) ∧ (¬ (r22 = 0) → (wp_X9_turned s23 0 (fun r26 s27 => post r26 s27))))))) ∧ (¬ (r16 = 0) → (wp_X9_turned s17 0 (fun r20 s21 => post r20 s21))))))))))))))))))
set_option maxHeartbeats 4000000 in
set_option maxRecDepth 100000 in
theorem io_c_X3_refusalToMove (l : Launch) (D : va_G) (ca : Nat → ClassId) (ad : Nat → Nat) (A : Nat → Prop) (σ : io_M) (p1 : Int32) (p2 : Int32) (post : Int32 → io_M → Prop) (hw : wp_X3_refusalToMove σ p1 p2 post) : Met l yX3_refusalToMove (.code yX3_refusalToMove cX3_refusalToMove 3 (some .int) :: io_tb) (io_rm 2) (va_Pc [.ref (ad 101), .int p1, .int p2] (io_W D ca ad A σ)) (va_Qi post (io_W D ca ad A) A) 0 0 A := by
  refine Met.ofW (cc := cX3_refusalToMove) (maxL := 3) (ret := (some .int)) (by decide) rfl ?_
  intro p e s m args below meth c s₁ Bd hml hv
  obtain ⟨rfl, hW0⟩ := hv
  have Z := io_Z.start hW0
  have B : CallFix p m c cX3_refusalToMove 3 s _ io_tb RX3 := ⟨Bd.exec, Bd.bytes, hml, findClass_of_methodNamed Bd.named, fun w hw => atoms_spec (ws := (.code yX3_refusalToMove cX3_refusalToMove 3 (some .int) :: io_tb)) Bd.pre w (List.mem_cons_of_mem _ hw)⟩
  have hr := Bd.returns
  have hlk := Bd.notSynchronized
  have hl := lv_entry ([.ref (ad 101), .int p1, .int p2]) (n := 3) (Nat.le_of_ble_eq_true rfl)
  rw [lg_entry_eq]
  generalize (lg_sl ([.ref (ad 101), .int p1, .int p2]) ++ List.replicate (3 - (lg_sl ([.ref (ad 101), .int p1, .int p2])).length) Slot.unset).toArray = ls at hl ⊢
  have hl : lv_has ls 3 [(0, .ref (ad 101)), (1, .int p1), (2, .int p2)] := hl
  show W p l e (io_rm 2) s m _ below meth c s.heap [] 0 0 _ (F0 m 0 ls [])
  unfold wp_X3_refusalToMove at hw
  refine lv_aload_n B.1 B.2.1 dX3_refusalToMove_0 rfl (lv_at hl 0 rfl) ?_
  refine io_g_3_0 B Z dX3_refusalToMove_1 ?_
  refine lv_iload_n B.1 B.2.1 dX3_refusalToMove_4 rfl (lv_at hl 1 rfl) ?_
  refine io_call_i Z (io_runV (ci := 1) (k := 88) [.int p1] [] B Z (io_c_X1_isThere l D ca ad A _ p1 _ hw) io_k_3_49 (io_hR (by decide) (by decide)) rfl (by decide) (io_e_88 _) rfl hl.1 (Nat.le_of_ble_eq_true rfl) dX3_refusalToMove_5 ⟨Nat.le_refl _, Nat.le_refl _⟩) (fun r2 s3 H locs hw Z => ?_)
  obtain ⟨b4, hw⟩ := hw
  refine lv_if_ne (tgt := 16) B.1 B.2.1 dX3_refusalToMove_8 (by decide) (fun k5 => ?_) (fun k5 => ?_)
  · have hw := hw.2 k5
    refine lv_aload_n B.1 B.2.1 dX3_refusalToMove_16 rfl (lv_at hl 0 rfl) ?_
    refine io_g_3_0 B Z dX3_refusalToMove_17 ?_
    refine lv_iload_n B.1 B.2.1 dX3_refusalToMove_20 rfl (lv_at hl 1 rfl) ?_
    refine lv_iconst (v := 2) B.1 B.2.1 dX3_refusalToMove_21 (by decide) ?_
    refine io_call_i Z (io_runV (ci := 1) (k := 88) [.int p1, .int 2] [] B Z (io_c_X1_grants l D ca ad A _ p1 2 _ hw) io_k_3_60 (io_hR (by decide) (by decide)) rfl (by decide) (io_e_88 _) rfl hl.1 (Nat.le_of_ble_eq_true rfl) dX3_refusalToMove_22 ⟨Nat.le_refl _, Nat.le_refl _⟩) (fun r6 s7 H locs hw Z => ?_)
    obtain ⟨b8, hw⟩ := hw
    refine lv_if_eq (tgt := 40) B.1 B.2.1 dX3_refusalToMove_25 (by decide) (fun k9 => ?_) (fun k9 => ?_)
    · have hw := hw.1 k9
      refine lv_iconst (v := 2) B.1 B.2.1 dX3_refusalToMove_40 (by decide) ?_
      refine io_call_i Z (io_runN [.int 2] [] B Z (io_c_X9_turned l D ca ad A _ 2 _ hw) io_k_3_53 (io_hR (by decide) (by decide)) rfl hl.1 (Nat.le_of_ble_eq_true rfl) dX3_refusalToMove_41 ⟨Nat.le_refl _, Nat.le_refl _⟩) (fun r10 s11 H locs hw Z => ?_)
      exact io_ret_i B Z hr hlk hw dX3_refusalToMove_44
    · have hw := hw.2 k9
      refine lv_aload_n B.1 B.2.1 dX3_refusalToMove_28 rfl (lv_at hl 0 rfl) ?_
      refine io_g_3_0 B Z dX3_refusalToMove_29 ?_
      refine lv_iload_n B.1 B.2.1 dX3_refusalToMove_32 rfl (lv_at hl 2 rfl) ?_
      refine lv_iconst (v := 2) B.1 B.2.1 dX3_refusalToMove_33 (by decide) ?_
      refine io_call_i Z (io_runV (ci := 1) (k := 88) [.int p2, .int 2] [] B Z (io_c_X1_grants l D ca ad A _ p2 2 _ hw) io_k_3_60 (io_hR (by decide) (by decide)) rfl (by decide) (io_e_88 _) rfl hl.1 (Nat.le_of_ble_eq_true rfl) dX3_refusalToMove_34 ⟨Nat.le_refl _, Nat.le_refl _⟩) (fun r12 s13 H locs hw Z => ?_)
      obtain ⟨b14, hw⟩ := hw
      refine lv_if_ne (tgt := 45) B.1 B.2.1 dX3_refusalToMove_37 (by decide) (fun k15 => ?_) (fun k15 => ?_)
      · have hw := hw.2 k15
        refine lv_aload_n B.1 B.2.1 dX3_refusalToMove_45 rfl (lv_at hl 0 rfl) ?_
        refine lv_iload_n B.1 B.2.1 dX3_refusalToMove_46 rfl (lv_at hl 1 rfl) ?_
        refine lv_iconst (v := 0) B.1 B.2.1 dX3_refusalToMove_47 (by decide) ?_
        refine io_call_i Z (io_runV (ci := 3) (k := 101) [.int p1, .int 0] [] B Z (io_c_X3_isHeld l D ca ad A _ p1 0 _ hw) io_k_3_63 (io_hR (by decide) (by decide)) rfl (by decide) (io_e_101 _) rfl hl.1 (Nat.le_of_ble_eq_true rfl) dX3_refusalToMove_48 ⟨Nat.le_refl _, Nat.le_refl _⟩) (fun r16 s17 H locs hw Z => ?_)
        obtain ⟨b18, hw⟩ := hw
        refine lv_if_ne (tgt := 63) B.1 B.2.1 dX3_refusalToMove_51 (by decide) (fun k19 => ?_) (fun k19 => ?_)
        · have hw := hw.2 k19
          refine lv_iconst (v := 0) B.1 B.2.1 dX3_refusalToMove_63 (by decide) ?_
          refine io_call_i Z (io_runN [.int 0] [] B Z (io_c_X9_turned l D ca ad A _ 0 _ hw) io_k_3_53 (io_hR (by decide) (by decide)) rfl hl.1 (Nat.le_of_ble_eq_true rfl) dX3_refusalToMove_64 ⟨Nat.le_refl _, Nat.le_refl _⟩) (fun r20 s21 H locs hw Z => ?_)
          refine lv_goto (tgt := 71) B.1 B.2.1 dX3_refusalToMove_67 (by decide) ?_
          exact io_ret_i B Z hr hlk hw dX3_refusalToMove_71
        · have hw := hw.1 k19
          refine lv_aload_n B.1 B.2.1 dX3_refusalToMove_54 rfl (lv_at hl 0 rfl) ?_
          refine lv_iload_n B.1 B.2.1 dX3_refusalToMove_55 rfl (lv_at hl 2 rfl) ?_
          refine lv_iconst (v := 0) B.1 B.2.1 dX3_refusalToMove_56 (by decide) ?_
          refine io_call_i Z (io_runV (ci := 3) (k := 101) [.int p2, .int 0] [] B Z (io_c_X3_isHeld l D ca ad A _ p2 0 _ hw) io_k_3_63 (io_hR (by decide) (by decide)) rfl (by decide) (io_e_101 _) rfl hl.1 (Nat.le_of_ble_eq_true rfl) dX3_refusalToMove_57 ⟨Nat.le_refl _, Nat.le_refl _⟩) (fun r22 s23 H locs hw Z => ?_)
          obtain ⟨b24, hw⟩ := hw
          refine lv_if_eq (tgt := 70) B.1 B.2.1 dX3_refusalToMove_60 (by decide) (fun k25 => ?_) (fun k25 => ?_)
          · have hw := hw.1 k25
            refine lv_iconst (v := 0) B.1 B.2.1 dX3_refusalToMove_70 (by decide) ?_
            exact io_ret_i B Z hr hlk hw dX3_refusalToMove_71
          · have hw := hw.2 k25
            refine lv_iconst (v := 0) B.1 B.2.1 dX3_refusalToMove_63 (by decide) ?_
            refine io_call_i Z (io_runN [.int 0] [] B Z (io_c_X9_turned l D ca ad A _ 0 _ hw) io_k_3_53 (io_hR (by decide) (by decide)) rfl hl.1 (Nat.le_of_ble_eq_true rfl) dX3_refusalToMove_64 ⟨Nat.le_refl _, Nat.le_refl _⟩) (fun r26 s27 H locs hw Z => ?_)
            refine lv_goto (tgt := 71) B.1 B.2.1 dX3_refusalToMove_67 (by decide) ?_
            exact io_ret_i B Z hr hlk hw dX3_refusalToMove_71
      · have hw := hw.1 k15
        refine lv_iconst (v := 2) B.1 B.2.1 dX3_refusalToMove_40 (by decide) ?_
        refine io_call_i Z (io_runN [.int 2] [] B Z (io_c_X9_turned l D ca ad A _ 2 _ hw) io_k_3_53 (io_hR (by decide) (by decide)) rfl hl.1 (Nat.le_of_ble_eq_true rfl) dX3_refusalToMove_41 ⟨Nat.le_refl _, Nat.le_refl _⟩) (fun r28 s29 H locs hw Z => ?_)
        exact io_ret_i B Z hr hlk hw dX3_refusalToMove_44
  · have hw := hw.1 k5
    refine lv_iconst (v := 1) B.1 B.2.1 dX3_refusalToMove_11 (by decide) ?_
    refine io_call_i Z (io_runN [.int 1] [] B Z (io_c_X9_turned l D ca ad A _ 1 _ hw) io_k_3_53 (io_hR (by decide) (by decide)) rfl hl.1 (Nat.le_of_ble_eq_true rfl) dX3_refusalToMove_12 ⟨Nat.le_refl _, Nat.le_refl _⟩) (fun r30 s31 H locs hw Z => ?_)
    exact io_ret_i B Z hr hlk hw dX3_refusalToMove_15
def wp_X3_removeFile (σ : io_M) (p1 : Int32) (post : Int32 → io_M → Prop) : Prop := (wp_X3_refusalToMove σ p1 p1 (fun r2 s3 => ((r2 = 0 → (wp_X1_remove s3 p1 (fun s6 => post r2 s6))) ∧ (¬ (r2 = 0) → post r2 s3))))
set_option maxHeartbeats 4000000 in
set_option maxRecDepth 100000 in
theorem io_c_X3_removeFile (l : Launch) (D : va_G) (ca : Nat → ClassId) (ad : Nat → Nat) (A : Nat → Prop) (σ : io_M) (p1 : Int32) (post : Int32 → io_M → Prop) (hw : wp_X3_removeFile σ p1 post) : Met l yX3_removeFile (.code yX3_removeFile cX3_removeFile 3 (some .int) :: io_tb) (io_rm 3) (va_Pc [.ref (ad 101), .int p1] (io_W D ca ad A σ)) (va_Qi post (io_W D ca ad A) A) 0 0 A := by
  refine Met.ofW (cc := cX3_removeFile) (maxL := 3) (ret := (some .int)) (by decide) rfl ?_
  intro p e s m args below meth c s₁ Bd hml hv
  obtain ⟨rfl, hW0⟩ := hv
  have Z := io_Z.start hW0
  have B : CallFix p m c cX3_removeFile 3 s _ io_tb RX3 := ⟨Bd.exec, Bd.bytes, hml, findClass_of_methodNamed Bd.named, fun w hw => atoms_spec (ws := (.code yX3_removeFile cX3_removeFile 3 (some .int) :: io_tb)) Bd.pre w (List.mem_cons_of_mem _ hw)⟩
  have hr := Bd.returns
  have hlk := Bd.notSynchronized
  have hl := lv_entry ([.ref (ad 101), .int p1]) (n := 3) (Nat.le_of_ble_eq_true rfl)
  rw [lg_entry_eq]
  generalize (lg_sl ([.ref (ad 101), .int p1]) ++ List.replicate (3 - (lg_sl ([.ref (ad 101), .int p1])).length) Slot.unset).toArray = ls at hl ⊢
  have hl : lv_has ls 3 [(0, .ref (ad 101)), (1, .int p1)] := hl
  show W p l e (io_rm 3) s m _ below meth c s.heap [] 0 0 _ (F0 m 0 ls [])
  unfold wp_X3_removeFile at hw
  refine lv_aload_n B.1 B.2.1 dX3_removeFile_0 rfl (lv_at hl 0 rfl) ?_
  refine lv_iload_n B.1 B.2.1 dX3_removeFile_1 rfl (lv_at hl 1 rfl) ?_
  refine lv_iload_n B.1 B.2.1 dX3_removeFile_2 rfl (lv_at hl 1 rfl) ?_
  refine io_call_i Z (io_runV (ci := 3) (k := 101) [.int p1, .int p1] [] B Z (io_c_X3_refusalToMove l D ca ad A _ p1 p1 _ hw) io_k_3_74 (io_hR (by decide) (by decide)) rfl (by decide) (io_e_101 _) rfl hl.1 (Nat.le_of_ble_eq_true rfl) dX3_removeFile_3 ⟨Nat.le_refl _, Nat.le_refl _⟩) (fun r2 s3 H locs hw Z => ?_)
  refine lv_istore_n (lv' := [(2, .int r2), (0, .ref (ad 101)), (1, .int p1)]) B.1 B.2.1 dX3_removeFile_6 rfl hl (by decide) rfl (fun ls hl => ?_)
  refine lv_iload_n B.1 B.2.1 dX3_removeFile_7 rfl (lv_at hl 0 rfl) ?_
  refine lv_if_ne (tgt := 19) B.1 B.2.1 dX3_removeFile_8 (by decide) (fun k4 => ?_) (fun k4 => ?_)
  · have hw := hw.2 k4
    refine lv_iload_n B.1 B.2.1 dX3_removeFile_19 rfl (lv_at hl 0 rfl) ?_
    exact io_ret_i B Z hr hlk hw dX3_removeFile_20
  · have hw := hw.1 k4
    refine lv_aload_n B.1 B.2.1 dX3_removeFile_11 rfl (lv_at hl 1 rfl) ?_
    refine io_g_3_0 B Z dX3_removeFile_12 ?_
    refine lv_iload_n B.1 B.2.1 dX3_removeFile_15 rfl (lv_at hl 2 rfl) ?_
    refine io_call_v Z (io_runV (ci := 1) (k := 88) [.int p1] [] B Z (io_c_X1_remove l D ca ad A _ p1 _ hw) io_k_3_77 (io_hR (by decide) (by decide)) rfl (by decide) (io_e_88 _) rfl hl.1 (Nat.le_of_ble_eq_true rfl) dX3_removeFile_16 ⟨Nat.le_refl _, Nat.le_refl _⟩) (fun s6 H locs hw Z => ?_)
    refine lv_iload_n B.1 B.2.1 dX3_removeFile_19 rfl (lv_at hl 0 rfl) ?_
    exact io_ret_i B Z hr hlk hw dX3_removeFile_20
def wp_X3_renameFile (σ : io_M) (p1 : Int32) (p2 : Int32) (post : Int32 → io_M → Prop) : Prop := (wp_X3_refusalToMove σ p1 p2 (fun r2 s3 => ((r2 = 0 → ((p1 = p2 → post r2 s3) ∧ (¬ (p1 = p2) → (wp_X1_move s3 p1 p2 (fun s7 => post r2 s7))))) ∧ (¬ (r2 = 0) → post r2 s3))))
set_option maxHeartbeats 4000000 in
set_option maxRecDepth 100000 in
theorem io_c_X3_renameFile (l : Launch) (D : va_G) (ca : Nat → ClassId) (ad : Nat → Nat) (A : Nat → Prop) (σ : io_M) (p1 : Int32) (p2 : Int32) (post : Int32 → io_M → Prop) (hw : wp_X3_renameFile σ p1 p2 post) : Met l yX3_renameFile (.code yX3_renameFile cX3_renameFile 4 (some .int) :: io_tb) (io_rm 3) (va_Pc [.ref (ad 101), .int p1, .int p2] (io_W D ca ad A σ)) (va_Qi post (io_W D ca ad A) A) 0 0 A := by
  refine Met.ofW (cc := cX3_renameFile) (maxL := 4) (ret := (some .int)) (by decide) rfl ?_
  intro p e s m args below meth c s₁ Bd hml hv
  obtain ⟨rfl, hW0⟩ := hv
  have Z := io_Z.start hW0
  have B : CallFix p m c cX3_renameFile 4 s _ io_tb RX3 := ⟨Bd.exec, Bd.bytes, hml, findClass_of_methodNamed Bd.named, fun w hw => atoms_spec (ws := (.code yX3_renameFile cX3_renameFile 4 (some .int) :: io_tb)) Bd.pre w (List.mem_cons_of_mem _ hw)⟩
  have hr := Bd.returns
  have hlk := Bd.notSynchronized
  have hl := lv_entry ([.ref (ad 101), .int p1, .int p2]) (n := 4) (Nat.le_of_ble_eq_true rfl)
  rw [lg_entry_eq]
  generalize (lg_sl ([.ref (ad 101), .int p1, .int p2]) ++ List.replicate (4 - (lg_sl ([.ref (ad 101), .int p1, .int p2])).length) Slot.unset).toArray = ls at hl ⊢
  have hl : lv_has ls 4 [(0, .ref (ad 101)), (1, .int p1), (2, .int p2)] := hl
  show W p l e (io_rm 3) s m _ below meth c s.heap [] 0 0 _ (F0 m 0 ls [])
  unfold wp_X3_renameFile at hw
  refine lv_aload_n B.1 B.2.1 dX3_renameFile_0 rfl (lv_at hl 0 rfl) ?_
  refine lv_iload_n B.1 B.2.1 dX3_renameFile_1 rfl (lv_at hl 1 rfl) ?_
  refine lv_iload_n B.1 B.2.1 dX3_renameFile_2 rfl (lv_at hl 2 rfl) ?_
  refine io_call_i Z (io_runV (ci := 3) (k := 101) [.int p1, .int p2] [] B Z (io_c_X3_refusalToMove l D ca ad A _ p1 p2 _ hw) io_k_3_74 (io_hR (by decide) (by decide)) rfl (by decide) (io_e_101 _) rfl hl.1 (Nat.le_of_ble_eq_true rfl) dX3_renameFile_3 ⟨Nat.le_refl _, Nat.le_refl _⟩) (fun r2 s3 H locs hw Z => ?_)
  refine lv_istore_n (lv' := [(3, .int r2), (0, .ref (ad 101)), (1, .int p1), (2, .int p2)]) B.1 B.2.1 dX3_renameFile_6 rfl hl (by decide) rfl (fun ls hl => ?_)
  refine lv_iload_n B.1 B.2.1 dX3_renameFile_7 rfl (lv_at hl 0 rfl) ?_
  refine lv_if_ne (tgt := 25) B.1 B.2.1 dX3_renameFile_8 (by decide) (fun k4 => ?_) (fun k4 => ?_)
  · have hw := hw.2 k4
    refine lv_iload_n B.1 B.2.1 dX3_renameFile_25 rfl (lv_at hl 0 rfl) ?_
    exact io_ret_i B Z hr hlk hw dX3_renameFile_26
  · have hw := hw.1 k4
    refine lv_iload_n B.1 B.2.1 dX3_renameFile_11 rfl (lv_at hl 2 rfl) ?_
    refine lv_iload_n B.1 B.2.1 dX3_renameFile_12 rfl (lv_at hl 3 rfl) ?_
    refine lv_icmp_eq (tgt := 25) B.1 B.2.1 dX3_renameFile_13 (by decide) (fun k5 => ?_) (fun k5 => ?_)
    · have hw := hw.1 k5
      refine lv_iload_n B.1 B.2.1 dX3_renameFile_25 rfl (lv_at hl 0 rfl) ?_
      exact io_ret_i B Z hr hlk hw dX3_renameFile_26
    · have hw := hw.2 k5
      refine lv_aload_n B.1 B.2.1 dX3_renameFile_16 rfl (lv_at hl 1 rfl) ?_
      refine io_g_3_0 B Z dX3_renameFile_17 ?_
      refine lv_iload_n B.1 B.2.1 dX3_renameFile_20 rfl (lv_at hl 2 rfl) ?_
      refine lv_iload_n B.1 B.2.1 dX3_renameFile_21 rfl (lv_at hl 3 rfl) ?_
      refine io_call_v Z (io_runV (ci := 1) (k := 88) [.int p1, .int p2] [] B Z (io_c_X1_move l D ca ad A _ p1 p2 _ hw) io_k_3_80 (io_hR (by decide) (by decide)) rfl (by decide) (io_e_88 _) rfl hl.1 (Nat.le_of_ble_eq_true rfl) dX3_renameFile_22 ⟨Nat.le_refl _, Nat.le_refl _⟩) (fun s7 H locs hw Z => ?_)
      refine lv_iload_n B.1 B.2.1 dX3_renameFile_25 rfl (lv_at hl 0 rfl) ?_
      exact io_ret_i B Z hr hlk hw dX3_renameFile_26
def wp_X3_pick (σ : io_M) (p1 : Int32) (post : Option Nat → io_M → Prop) : Prop := (wp_X9_within σ p1 (σ 101 2) (fun r2 s3 => ((r2 = 0 → post none s3) ∧ (¬ (r2 = 0) → (vp_in p1 20 ∧ (post (some ((p1).toNatClampNeg)) s3))))))
set_option maxHeartbeats 4000000 in
set_option maxRecDepth 100000 in
theorem io_c_X3_pick (l : Launch) (D : va_G) (ca : Nat → ClassId) (ad : Nat → Nat) (A : Nat → Prop) (σ : io_M) (p1 : Int32) (post : Option Nat → io_M → Prop) (hw : wp_X3_pick σ p1 post) : Met l yX3_pick (.code yX3_pick cX3_pick 2 (some (.object "InputOutput$Handle")) :: io_tb) (io_rm 1) (va_Pc [.ref (ad 101), .int p1] (io_W D ca ad A σ)) (va_Qq (fun r u => ∃ o : Option Nat, r = o.map (fun i => ad (0 + i)) ∧ (∀ i, o = some i → i < 20) ∧ post o u) (io_W D ca ad A) A) 0 0 A := by
  refine Met.ofW (cc := cX3_pick) (maxL := 2) (ret := (some (.object "InputOutput$Handle"))) (by decide) rfl ?_
  intro p e s m args below meth c s₁ Bd hml hv
  obtain ⟨rfl, hW0⟩ := hv
  have Z := io_Z.start hW0
  have B : CallFix p m c cX3_pick 2 s _ io_tb RX3 := ⟨Bd.exec, Bd.bytes, hml, findClass_of_methodNamed Bd.named, fun w hw => atoms_spec (ws := (.code yX3_pick cX3_pick 2 (some (.object "InputOutput$Handle")) :: io_tb)) Bd.pre w (List.mem_cons_of_mem _ hw)⟩
  have hr := Bd.returns
  have hlk := Bd.notSynchronized
  have hl := lv_entry ([.ref (ad 101), .int p1]) (n := 2) (Nat.le_of_ble_eq_true rfl)
  rw [lg_entry_eq]
  generalize (lg_sl ([.ref (ad 101), .int p1]) ++ List.replicate (2 - (lg_sl ([.ref (ad 101), .int p1])).length) Slot.unset).toArray = ls at hl ⊢
  have hl : lv_has ls 2 [(0, .ref (ad 101)), (1, .int p1)] := hl
  show W p l e (io_rm 1) s m _ below meth c s.heap [] 0 0 _ (F0 m 0 ls [])
  unfold wp_X3_pick at hw
  refine lv_iload_n B.1 B.2.1 dX3_pick_0 rfl (lv_at hl 1 rfl) ?_
  refine lv_aload_n B.1 B.2.1 dX3_pick_1 rfl (lv_at hl 0 rfl) ?_
  refine io_g_3_2 B Z dX3_pick_2 ?_
  refine io_call_i Z (io_runN [.int p1, .int (σ 101 2)] [] B Z (io_c_X9_within l D ca ad A _ p1 (σ 101 2) _ hw) io_k_3_28 (io_hR (by decide) (by decide)) rfl hl.1 (Nat.le_of_ble_eq_true rfl) dX3_pick_5 ⟨Nat.le_refl _, Nat.le_refl _⟩) (fun r2 s3 H locs hw Z => ?_)
  obtain ⟨b4, hw⟩ := hw
  refine lv_if_eq (tgt := 20) B.1 B.2.1 dX3_pick_8 (by decide) (fun k5 => ?_) (fun k5 => ?_)
  · have hw := hw.1 k5
    refine lv_null B.1 B.2.1 dX3_pick_20 ?_
    exact io_ret_n B Z hr hlk hw dX3_pick_21
  · have hw := hw.2 k5
    refine lv_aload_n B.1 B.2.1 dX3_pick_11 rfl (lv_at hl 0 rfl) ?_
    refine io_g_3_1 B Z dX3_pick_12 ?_
    refine lv_iload_n B.1 B.2.1 dX3_pick_15 rfl (lv_at hl 1 rfl) ?_
    have h6 := io_lt hw.1
    refine io_aldH B Z hw.1 dX3_pick_16 ?_
    have hw := hw.2
    refine lv_goto (tgt := 21) B.1 B.2.1 dX3_pick_17 (by decide) ?_
    exact io_ret_r0 B Z hr hlk h6 hw dX3_pick_21
def wp_X3_count (σ : io_M) (post : Int32 → io_M → Prop) : Prop := post (σ 101 2) σ
set_option maxHeartbeats 4000000 in
set_option maxRecDepth 100000 in
theorem io_c_X3_count (l : Launch) (D : va_G) (ca : Nat → ClassId) (ad : Nat → Nat) (A : Nat → Prop) (σ : io_M) (post : Int32 → io_M → Prop) (hw : wp_X3_count σ post) : Met l yX3_count (.code yX3_count cX3_count 1 (some .int) :: io_tb) (io_rm 0) (va_Pc [.ref (ad 101)] (io_W D ca ad A σ)) (va_Qi post (io_W D ca ad A) A) 0 0 A := by
  refine Met.ofW (cc := cX3_count) (maxL := 1) (ret := (some .int)) (by decide) rfl ?_
  intro p e s m args below meth c s₁ Bd hml hv
  obtain ⟨rfl, hW0⟩ := hv
  have Z := io_Z.start hW0
  have B : CallFix p m c cX3_count 1 s _ io_tb RX3 := ⟨Bd.exec, Bd.bytes, hml, findClass_of_methodNamed Bd.named, fun w hw => atoms_spec (ws := (.code yX3_count cX3_count 1 (some .int) :: io_tb)) Bd.pre w (List.mem_cons_of_mem _ hw)⟩
  have hr := Bd.returns
  have hlk := Bd.notSynchronized
  have hl := lv_entry ([.ref (ad 101)]) (n := 1) (Nat.le_of_ble_eq_true rfl)
  rw [lg_entry_eq]
  generalize (lg_sl ([.ref (ad 101)]) ++ List.replicate (1 - (lg_sl ([.ref (ad 101)])).length) Slot.unset).toArray = ls at hl ⊢
  have hl : lv_has ls 1 [(0, .ref (ad 101))] := hl
  show W p l e (io_rm 0) s m _ below meth c s.heap [] 0 0 _ (F0 m 0 ls [])
  unfold wp_X3_count at hw
  refine lv_aload_n B.1 B.2.1 dX3_count_0 rfl (lv_at hl 0 rfl) ?_
  refine io_g_3_2 B Z dX3_count_1 ?_
  exact io_ret_i B Z hr hlk hw dX3_count_4
