def wp_X10_in (σ : io_M) (p0 : Int32) (p1 : Int32) (p2 : Int32) (post : Int32 → io_M → Prop) : Prop := ((p0 < p1 → post 0 σ) ∧ (¬ (p0 < p1) → ((p2 < p0 → post 0 σ) ∧ (¬ (p2 < p0) → post 1 σ))))
set_option maxHeartbeats 4000000 in
set_option maxRecDepth 100000 in
theorem io_c_X10_in (l : Launch) (D : va_G) (ca : Nat → ClassId) (ad : Nat → Nat) (A : Nat → Prop) (σ : io_M) (p0 : Int32) (p1 : Int32) (p2 : Int32) (post : Int32 → io_M → Prop) (hw : wp_X10_in σ p0 p1 p2 post) : Met l yX10_in (.code yX10_in cX10_in 3 (some .boolean) :: io_tb) (io_rm 0) (va_Pc [.int p0, .int p1, .int p2] (io_W D ca ad A σ)) (va_Qi (fun r u => io_bl r ∧ post r u) (io_W D ca ad A) A) 0 0 A := by
  refine Met.ofW (cc := cX10_in) (maxL := 3) (ret := (some .boolean)) (by decide) rfl ?_
  intro p e s m args below meth c s₁ Bd hml hv
  obtain ⟨rfl, hW0⟩ := hv
  have Z := io_Z.start hW0
  have B : CallFix p m c cX10_in 3 s _ io_tb RX10 := ⟨Bd.exec, Bd.bytes, hml, findClass_of_methodNamed Bd.named, fun w hw => atoms_spec (ws := (.code yX10_in cX10_in 3 (some .boolean) :: io_tb)) Bd.pre w (List.mem_cons_of_mem _ hw)⟩
  have hr := Bd.returns
  have hlk := Bd.notSynchronized
  have hl := lv_entry ([.int p0, .int p1, .int p2]) (n := 3) (Nat.le_of_ble_eq_true rfl)
  rw [lg_entry_eq]
  generalize (lg_sl ([.int p0, .int p1, .int p2]) ++ List.replicate (3 - (lg_sl ([.int p0, .int p1, .int p2])).length) Slot.unset).toArray = ls at hl ⊢
  have hl : lv_has ls 3 [(0, .int p0), (1, .int p1), (2, .int p2)] := hl
  show W p l e (io_rm 0) s m _ below meth c s.heap [] 0 0 _ (F0 m 0 ls [])
  unfold wp_X10_in at hw
  refine lv_iload_n B.1 B.2.1 dX10_in_0 rfl (lv_at hl 0 rfl) ?_
  refine lv_iload_n B.1 B.2.1 dX10_in_1 rfl (lv_at hl 1 rfl) ?_
  refine lv_icmp_lt (tgt := 14) B.1 B.2.1 dX10_in_2 (by decide) (fun k2 => ?_) (fun k2 => ?_)
  · have hw := hw.1 k2
    refine lv_iconst (v := 0) B.1 B.2.1 dX10_in_14 (by decide) ?_
    exact io_ret_z B Z hr hlk (Or.inl rfl) hw dX10_in_15
  · have hw := hw.2 k2
    refine lv_iload_n B.1 B.2.1 dX10_in_5 rfl (lv_at hl 0 rfl) ?_
    refine lv_iload_n B.1 B.2.1 dX10_in_6 rfl (lv_at hl 2 rfl) ?_
    refine lv_icmp_gt (tgt := 14) B.1 B.2.1 dX10_in_7 (by decide) (fun k3 => ?_) (fun k3 => ?_)
    · have hw := hw.1 k3
      refine lv_iconst (v := 0) B.1 B.2.1 dX10_in_14 (by decide) ?_
      exact io_ret_z B Z hr hlk (Or.inl rfl) hw dX10_in_15
    · have hw := hw.2 k3
      refine lv_iconst (v := 1) B.1 B.2.1 dX10_in_10 (by decide) ?_
      refine lv_goto (tgt := 15) B.1 B.2.1 dX10_in_11 (by decide) ?_
      exact io_ret_z B Z hr hlk (Or.inr rfl) hw dX10_in_15
def wl_X10_allBytes_4 : Nat → io_M → Int32 → Int32 → (Int32 → io_M → Prop) → Prop
  | 0, _, _, _, _ => False
  | n + 1, σ, x1, x2, post => ((8 ≤ x2 → post x1 σ) ∧ (¬ (8 ≤ x2) → (vp_in x2 8 ∧ (((σ 112 (x2).toNatClampNeg) = 0 → wl_X10_allBytes_4 n σ (x1 + 0) (x2 + 1) post) ∧ (¬ ((σ 112 (x2).toNatClampNeg) = 0) → (vp_in x2 8 ∧ wl_X10_allBytes_4 n σ (x1 + (σ 113 (x2).toNatClampNeg)) (x2 + 1) post))))))
def wp_X10_allBytes (σ : io_M) (post : Int32 → io_M → Prop) : Prop := (∃ n, wl_X10_allBytes_4 n σ 0 0 post)
set_option maxHeartbeats 4000000 in
set_option maxRecDepth 100000 in
theorem io_c_X10_allBytes (l : Launch) (D : va_G) (ca : Nat → ClassId) (ad : Nat → Nat) (A : Nat → Prop) (σ : io_M) (post : Int32 → io_M → Prop) (hw : wp_X10_allBytes σ post) : Met l yX10_allBytes (.code yX10_allBytes cX10_allBytes 3 (some .int) :: io_tb) (io_rm 0) (va_Pc [.ref (ad 111)] (io_W D ca ad A σ)) (va_Qi post (io_W D ca ad A) A) 0 0 A := by
  refine Met.ofW (cc := cX10_allBytes) (maxL := 3) (ret := (some .int)) (by decide) rfl ?_
  intro p e s m args below meth c s₁ Bd hml hv
  obtain ⟨rfl, hW0⟩ := hv
  have Z := io_Z.start hW0
  have B : CallFix p m c cX10_allBytes 3 s _ io_tb RX10 := ⟨Bd.exec, Bd.bytes, hml, findClass_of_methodNamed Bd.named, fun w hw => atoms_spec (ws := (.code yX10_allBytes cX10_allBytes 3 (some .int) :: io_tb)) Bd.pre w (List.mem_cons_of_mem _ hw)⟩
  have hr := Bd.returns
  have hlk := Bd.notSynchronized
  have hl := lv_entry ([.ref (ad 111)]) (n := 3) (Nat.le_of_ble_eq_true rfl)
  rw [lg_entry_eq]
  generalize (lg_sl ([.ref (ad 111)]) ++ List.replicate (3 - (lg_sl ([.ref (ad 111)])).length) Slot.unset).toArray = ls at hl ⊢
  have hl : lv_has ls 3 [(0, .ref (ad 111))] := hl
  show W p l e (io_rm 0) s m _ below meth c s.heap [] 0 0 _ (F0 m 0 ls [])
  have LP4 : ∀ (n : Nat) (σ : io_M) (x1 : Int32) (x2 : Int32), wl_X10_allBytes_4 n σ x1 x2 post → ∀ (H : Heap) (locs : List Loc), io_Z D ca ad A s H locs σ → ∀ ls : Array Slot, lv_has ls 3 [(0, .ref (ad 111)), (1, .int x1), (2, .int x2)] → W p l e (io_rm 0) s m ([.ref (ad 111)] : List Value).toArray below meth c H locs 0 0 (MQ below (va_Qi post (io_W D ca ad A) A) ([.ref (ad 111)] : List Value).toArray s 0 0 A) (F0 m 4 ls []) := by
    intro n
    induction n with
    | zero =>
      intro σ x1 x2 hw
      exact hw.elim
    | succ n IH4 =>
      intro σ x1 x2 hw H locs Z ls hl
      unfold wl_X10_allBytes_4 at hw
      refine lv_iload_n B.1 B.2.1 dX10_allBytes_4 rfl (lv_at hl 2 rfl) ?_
      refine lv_bipush (v := 8) B.1 B.2.1 dX10_allBytes_5 (by decide) ?_
      refine lv_icmp_ge (tgt := 38) B.1 B.2.1 dX10_allBytes_7 (by decide) (fun k101 => ?_) (fun k101 => ?_)
      · have hw := hw.1 k101
        refine lv_iload_n B.1 B.2.1 dX10_allBytes_38 rfl (lv_at hl 1 rfl) ?_
        exact io_ret_i B Z hr hlk hw dX10_allBytes_39
      · have hw := hw.2 k101
        refine lv_iload_n B.1 B.2.1 dX10_allBytes_10 rfl (lv_at hl 1 rfl) ?_
        refine lv_aload_n B.1 B.2.1 dX10_allBytes_11 rfl (lv_at hl 0 rfl) ?_
        refine io_g_10_0 B Z dX10_allBytes_12 ?_
        refine lv_iload_n B.1 B.2.1 dX10_allBytes_15 rfl (lv_at hl 2 rfl) ?_
        refine io_zald B Z 112 (by decide) io_e_112 hw.1 dX10_allBytes_16 ?_
        have hw := hw.2
        refine lv_if_eq (tgt := 29) B.1 B.2.1 dX10_allBytes_17 (by decide) (fun k102 => ?_) (fun k102 => ?_)
        · have hw := hw.1 k102
          refine lv_iconst (v := 0) B.1 B.2.1 dX10_allBytes_29 (by decide) ?_
          refine lv_iadd B.1 B.2.1 dX10_allBytes_30 ?_
          refine lv_istore_n (lv' := [(1, .int (x1 + 0)), (0, .ref (ad 111)), (2, .int x2)]) B.1 B.2.1 dX10_allBytes_31 rfl hl (by decide) rfl (fun ls hl => ?_)
          refine lv_iinc (v := (x2 + 1)) (lv' := [(2, .int (x2 + 1)), (1, .int (x1 + 0)), (0, .ref (ad 111))]) B.1 B.2.1 dX10_allBytes_32 hl (k := 2) rfl rfl (by decide) rfl (fun ls hl => ?_)
          refine lv_goto (tgt := 4) B.1 B.2.1 dX10_allBytes_35 (by decide) ?_
          exact IH4 _ (x1 + 0) (x2 + 1) hw _ _ Z _ (lv_sub (l' := [(0, .ref (ad 111)), (1, .int (x1 + 0)), (2, .int (x2 + 1))]) hl [2, 1, 0] rfl)
        · have hw := hw.2 k102
          refine lv_aload_n B.1 B.2.1 dX10_allBytes_20 rfl (lv_at hl 0 rfl) ?_
          refine io_g_10_1 B Z dX10_allBytes_21 ?_
          refine lv_iload_n B.1 B.2.1 dX10_allBytes_24 rfl (lv_at hl 2 rfl) ?_
          refine io_iald B Z 113 (by decide) io_e_113 hw.1 dX10_allBytes_25 ?_
          have hw := hw.2
          refine lv_goto (tgt := 30) B.1 B.2.1 dX10_allBytes_26 (by decide) ?_
          refine lv_iadd B.1 B.2.1 dX10_allBytes_30 ?_
          refine lv_istore_n (lv' := [(1, .int (x1 + (σ 113 (x2).toNatClampNeg))), (0, .ref (ad 111)), (2, .int x2)]) B.1 B.2.1 dX10_allBytes_31 rfl hl (by decide) rfl (fun ls hl => ?_)
          refine lv_iinc (v := (x2 + 1)) (lv' := [(2, .int (x2 + 1)), (1, .int (x1 + (σ 113 (x2).toNatClampNeg))), (0, .ref (ad 111))]) B.1 B.2.1 dX10_allBytes_32 hl (k := 2) rfl rfl (by decide) rfl (fun ls hl => ?_)
          refine lv_goto (tgt := 4) B.1 B.2.1 dX10_allBytes_35 (by decide) ?_
          exact IH4 _ (x1 + (σ 113 (x2).toNatClampNeg)) (x2 + 1) hw _ _ Z _ (lv_sub (l' := [(0, .ref (ad 111)), (1, .int (x1 + (σ 113 (x2).toNatClampNeg))), (2, .int (x2 + 1))]) hl [2, 1, 0] rfl)
  unfold wp_X10_allBytes at hw
  refine lv_iconst (v := 0) B.1 B.2.1 dX10_allBytes_0 (by decide) ?_
  refine lv_istore_n (lv' := [(1, .int 0), (0, .ref (ad 111))]) B.1 B.2.1 dX10_allBytes_1 rfl hl (by decide) rfl (fun ls hl => ?_)
  refine lv_iconst (v := 0) B.1 B.2.1 dX10_allBytes_2 (by decide) ?_
  refine lv_istore_n (lv' := [(2, .int 0), (1, .int 0), (0, .ref (ad 111))]) B.1 B.2.1 dX10_allBytes_3 rfl hl (by decide) rfl (fun ls hl => ?_)
  obtain ⟨n, hw⟩ := hw
  exact LP4 n _ 0 0 hw _ _ Z _ (lv_sub (l' := [(0, .ref (ad 111)), (1, .int 0), (2, .int 0)]) hl [2, 1, 0] rfl)
def wj_X10_lay_43 (σ : io_M) (x1 : Int32) (x2 : Int32) (y0 : Int32) (post : Int32 → io_M → Prop) : Prop := ((y0 = 40 → post (-3) σ) ∧ (¬ (y0 = 40) → (wp_X10_allBytes σ (fun r102 s103 => ((r102 = 120 → post (-3) s103) ∧ (¬ (r102 = 120) → (vp_in x1 8 ∧ ∀ s105, s105 = io_up s103 112 (x1).toNatClampNeg ((vp_nar .boolean 1)) → (vp_in ((40 * x1) + y0) 320 ∧ ∀ s107, s107 = io_up s105 114 (((40 * x1) + y0)).toNatClampNeg ((((x2).toInt8.toInt32)).toInt8.toInt32) → (vp_in x1 8 ∧ ∀ s109, s109 = io_up s107 113 (x1).toNatClampNeg ((y0 + 1)) → post (y0 + 1) s109)))))))))
def wp_X10_lay (σ : io_M) (p1 : Int32) (p2 : Int32) (post : Int32 → io_M → Prop) : Prop := (wp_X10_in σ p1 0 7 (fun r2 s3 => ((r2 = 0 → post (-2) s3) ∧ (¬ (r2 = 0) → (wp_X10_in s3 p2 0 255 (fun r6 s7 => ((r6 = 0 → post (-2) s7) ∧ (¬ (r6 = 0) → (vp_in p1 8 ∧ (((s7 112 (p1).toNatClampNeg) = 0 → wj_X10_lay_43 s7 p1 p2 0 post) ∧ (¬ ((s7 112 (p1).toNatClampNeg) = 0) → (vp_in p1 8 ∧ wj_X10_lay_43 s7 p1 p2 (s7 113 (p1).toNatClampNeg) post))))))))))))
set_option maxHeartbeats 4000000 in
set_option maxRecDepth 100000 in
theorem io_c_X10_lay (l : Launch) (D : va_G) (ca : Nat → ClassId) (ad : Nat → Nat) (A : Nat → Prop) (σ : io_M) (p1 : Int32) (p2 : Int32) (post : Int32 → io_M → Prop) (hw : wp_X10_lay σ p1 p2 post) : Met l yX10_lay (.code yX10_lay cX10_lay 4 (some .int) :: io_tb) (io_rm 1) (va_Pc [.ref (ad 111), .int p1, .int p2] (io_W D ca ad A σ)) (va_Qi post (io_W D ca ad A) A) 0 0 A := by
  refine Met.ofW (cc := cX10_lay) (maxL := 4) (ret := (some .int)) (by decide) rfl ?_
  intro p e s m args below meth c s₁ Bd hml hv
  obtain ⟨rfl, hW0⟩ := hv
  have Z := io_Z.start hW0
  have B : CallFix p m c cX10_lay 4 s _ io_tb RX10 := ⟨Bd.exec, Bd.bytes, hml, findClass_of_methodNamed Bd.named, fun w hw => atoms_spec (ws := (.code yX10_lay cX10_lay 4 (some .int) :: io_tb)) Bd.pre w (List.mem_cons_of_mem _ hw)⟩
  have hr := Bd.returns
  have hlk := Bd.notSynchronized
  have hl := lv_entry ([.ref (ad 111), .int p1, .int p2]) (n := 4) (Nat.le_of_ble_eq_true rfl)
  rw [lg_entry_eq]
  generalize (lg_sl ([.ref (ad 111), .int p1, .int p2]) ++ List.replicate (4 - (lg_sl ([.ref (ad 111), .int p1, .int p2])).length) Slot.unset).toArray = ls at hl ⊢
  have hl : lv_has ls 4 [(0, .ref (ad 111)), (1, .int p1), (2, .int p2)] := hl
  show W p l e (io_rm 1) s m _ below meth c s.heap [] 0 0 _ (F0 m 0 ls [])
  have JN43 : ∀ (σ : io_M) (x1 : Int32) (x2 : Int32) (y0 : Int32), wj_X10_lay_43 σ x1 x2 y0 post → ∀ (H : Heap) (locs : List Loc), io_Z D ca ad A s H locs σ → ∀ ls : Array Slot, lv_has ls 4 [(0, .ref (ad 111)), (1, .int x1), (2, .int x2)] → W p l e (io_rm 1) s m ([.ref (ad 111), .int p1, .int p2] : List Value).toArray below meth c H locs 0 0 (MQ below (va_Qi post (io_W D ca ad A) A) ([.ref (ad 111), .int p1, .int p2] : List Value).toArray s 0 0 A) (F0 m 43 ls [.int y0]) := by
    intro σ x1 x2 y0 hw H locs Z ls hl
    unfold wj_X10_lay_43 at hw
    refine lv_istore_n (lv' := [(3, .int y0), (0, .ref (ad 111)), (1, .int x1), (2, .int x2)]) B.1 B.2.1 dX10_lay_43 rfl hl (by decide) rfl (fun ls hl => ?_)
    refine lv_iload_n B.1 B.2.1 dX10_lay_44 rfl (lv_at hl 0 rfl) ?_
    refine lv_bipush (v := 40) B.1 B.2.1 dX10_lay_45 (by decide) ?_
    refine lv_icmp_eq (tgt := 59) B.1 B.2.1 dX10_lay_47 (by decide) (fun k101 => ?_) (fun k101 => ?_)
    · have hw := hw.1 k101
      refine lv_bipush (v := (-3)) B.1 B.2.1 dX10_lay_59 (by decide) ?_
      exact io_ret_i B Z hr hlk hw dX10_lay_61
    · have hw := hw.2 k101
      refine lv_aload_n B.1 B.2.1 dX10_lay_50 rfl (lv_at hl 1 rfl) ?_
      refine io_call_i Z (io_runV (ci := 10) (k := 111) [] [] B Z (io_c_X10_allBytes l D ca ad A _ _ hw) io_k_10_131 (io_hR (by decide) (by decide)) rfl (by decide) (io_e_111 _) rfl hl.1 (Nat.le_of_ble_eq_true rfl) dX10_lay_51 ⟨Nat.le_refl _, Nat.le_refl _⟩) (fun r102 s103 H locs hw Z => ?_)
      refine lv_bipush (v := 120) B.1 B.2.1 dX10_lay_54 (by decide) ?_
      refine lv_icmp_ne (tgt := 62) B.1 B.2.1 dX10_lay_56 (by decide) (fun k104 => ?_) (fun k104 => ?_)
      · have hw := hw.2 k104
        refine lv_aload_n B.1 B.2.1 dX10_lay_62 rfl (lv_at hl 1 rfl) ?_
        refine io_g_10_0 B Z dX10_lay_63 ?_
        refine lv_iload_n B.1 B.2.1 dX10_lay_66 rfl (lv_at hl 2 rfl) ?_
        refine lv_iconst (v := 1) B.1 B.2.1 dX10_lay_67 (by decide) ?_
        refine io_zast B Z 112 (by decide) io_e_112 hw.1 dX10_lay_68 (fun s105 H locs e106 Z => ?_)
        have hw := hw.2 s105 e106
        refine lv_aload_n B.1 B.2.1 dX10_lay_69 rfl (lv_at hl 1 rfl) ?_
        refine io_g_10_2 B Z dX10_lay_70 ?_
        refine lv_bipush (v := 40) B.1 B.2.1 dX10_lay_73 (by decide) ?_
        refine lv_iload_n B.1 B.2.1 dX10_lay_75 rfl (lv_at hl 2 rfl) ?_
        refine lv_imul B.1 B.2.1 dX10_lay_76 ?_
        refine lv_iload_n B.1 B.2.1 dX10_lay_77 rfl (lv_at hl 0 rfl) ?_
        refine lv_iadd B.1 B.2.1 dX10_lay_78 ?_
        refine lv_iload_n B.1 B.2.1 dX10_lay_79 rfl (lv_at hl 3 rfl) ?_
        refine lv_i2b (v := ((x2).toInt8.toInt32)) B.1 B.2.1 dX10_lay_80 rfl ?_
        refine io_bast B Z 114 (by decide) io_e_114 hw.1 dX10_lay_81 (fun s107 H locs e108 Z => ?_)
        have hw := hw.2 s107 e108
        refine lv_aload_n B.1 B.2.1 dX10_lay_82 rfl (lv_at hl 1 rfl) ?_
        refine io_g_10_1 B Z dX10_lay_83 ?_
        refine lv_iload_n B.1 B.2.1 dX10_lay_86 rfl (lv_at hl 2 rfl) ?_
        refine lv_iload_n B.1 B.2.1 dX10_lay_87 rfl (lv_at hl 0 rfl) ?_
        refine lv_iconst (v := 1) B.1 B.2.1 dX10_lay_88 (by decide) ?_
        refine lv_iadd B.1 B.2.1 dX10_lay_89 ?_
        refine io_iast B Z 113 (by decide) io_e_113 hw.1 dX10_lay_90 (fun s109 H locs e110 Z => ?_)
        have hw := hw.2 s109 e110
        refine lv_iload_n B.1 B.2.1 dX10_lay_91 rfl (lv_at hl 0 rfl) ?_
        refine lv_iconst (v := 1) B.1 B.2.1 dX10_lay_92 (by decide) ?_
        refine lv_iadd B.1 B.2.1 dX10_lay_93 ?_
        exact io_ret_i B Z hr hlk hw dX10_lay_94
      · have hw := hw.1 k104
        refine lv_bipush (v := (-3)) B.1 B.2.1 dX10_lay_59 (by decide) ?_
        exact io_ret_i B Z hr hlk hw dX10_lay_61
  unfold wp_X10_lay at hw
  refine lv_iload_n B.1 B.2.1 dX10_lay_0 rfl (lv_at hl 1 rfl) ?_
  refine lv_iconst (v := 0) B.1 B.2.1 dX10_lay_1 (by decide) ?_
  refine lv_bipush (v := 7) B.1 B.2.1 dX10_lay_2 (by decide) ?_
  refine io_call_i Z (io_runS [.int p1, .int 0, .int 7] [] B Z (io_c_X10_in l D ca ad A _ p1 0 7 _ hw) io_k_10_127 (io_hR (by decide) (by decide)) rfl hl.1 (Nat.le_of_ble_eq_true rfl) dX10_lay_4 ⟨Nat.le_refl _, Nat.le_refl _⟩) (fun r2 s3 H locs hw Z => ?_)
  obtain ⟨b4, hw⟩ := hw
  refine lv_if_eq (tgt := 21) B.1 B.2.1 dX10_lay_7 (by decide) (fun k5 => ?_) (fun k5 => ?_)
  · have hw := hw.1 k5
    refine lv_bipush (v := (-2)) B.1 B.2.1 dX10_lay_21 (by decide) ?_
    exact io_ret_i B Z hr hlk hw dX10_lay_23
  · have hw := hw.2 k5
    refine lv_iload_n B.1 B.2.1 dX10_lay_10 rfl (lv_at hl 2 rfl) ?_
    refine lv_iconst (v := 0) B.1 B.2.1 dX10_lay_11 (by decide) ?_
    refine lv_sipush (v := 255) B.1 B.2.1 dX10_lay_12 (by decide) ?_
    refine io_call_i Z (io_runS [.int p2, .int 0, .int 255] [] B Z (io_c_X10_in l D ca ad A _ p2 0 255 _ hw) io_k_10_127 (io_hR (by decide) (by decide)) rfl hl.1 (Nat.le_of_ble_eq_true rfl) dX10_lay_15 ⟨Nat.le_refl _, Nat.le_refl _⟩) (fun r6 s7 H locs hw Z => ?_)
    obtain ⟨b8, hw⟩ := hw
    refine lv_if_ne (tgt := 24) B.1 B.2.1 dX10_lay_18 (by decide) (fun k9 => ?_) (fun k9 => ?_)
    · have hw := hw.2 k9
      refine lv_aload_n B.1 B.2.1 dX10_lay_24 rfl (lv_at hl 0 rfl) ?_
      refine io_g_10_0 B Z dX10_lay_25 ?_
      refine lv_iload_n B.1 B.2.1 dX10_lay_28 rfl (lv_at hl 1 rfl) ?_
      refine io_zald B Z 112 (by decide) io_e_112 hw.1 dX10_lay_29 ?_
      have hw := hw.2
      refine lv_if_eq (tgt := 42) B.1 B.2.1 dX10_lay_30 (by decide) (fun k10 => ?_) (fun k10 => ?_)
      · have hw := hw.1 k10
        refine lv_iconst (v := 0) B.1 B.2.1 dX10_lay_42 (by decide) ?_
        exact JN43 _ p1 p2 0 hw _ _ Z _ (lv_sub (l' := [(0, .ref (ad 111)), (1, .int p1), (2, .int p2)]) hl [0, 1, 2] rfl)
      · have hw := hw.2 k10
        refine lv_aload_n B.1 B.2.1 dX10_lay_33 rfl (lv_at hl 0 rfl) ?_
        refine io_g_10_1 B Z dX10_lay_34 ?_
        refine lv_iload_n B.1 B.2.1 dX10_lay_37 rfl (lv_at hl 1 rfl) ?_
        refine io_iald B Z 113 (by decide) io_e_113 hw.1 dX10_lay_38 ?_
        have hw := hw.2
        refine lv_goto (tgt := 43) B.1 B.2.1 dX10_lay_39 (by decide) ?_
        exact JN43 _ p1 p2 (s7 113 (p1).toNatClampNeg) hw _ _ Z _ (lv_sub (l' := [(0, .ref (ad 111)), (1, .int p1), (2, .int p2)]) hl [0, 1, 2] rfl)
    · have hw := hw.1 k9
      refine lv_bipush (v := (-2)) B.1 B.2.1 dX10_lay_21 (by decide) ?_
      exact io_ret_i B Z hr hlk hw dX10_lay_23
def wp_X10_there (σ : io_M) (p1 : Int32) (p2 : Int32) (post : Int32 → io_M → Prop) : Prop := (wp_X10_in σ p1 0 7 (fun r2 s3 => ((r2 = 0 → post (-2) s3) ∧ (¬ (r2 = 0) → (vp_in p1 8 ∧ ((p2 = (s3 112 (p1).toNatClampNeg) → (((s3 112 (p1).toNatClampNeg) = 0 → post 0 s3) ∧ (¬ ((s3 112 (p1).toNatClampNeg) = 0) → post 1 s3))) ∧ (¬ (p2 = (s3 112 (p1).toNatClampNeg)) → (vp_in p1 8 ∧ ∀ s8, s8 = io_up s3 112 (p1).toNatClampNeg ((vp_nar .boolean p2)) → (vp_in p1 8 ∧ ∀ s10, s10 = io_up s8 113 (p1).toNatClampNeg (0) → (((s3 112 (p1).toNatClampNeg) = 0 → post 0 s10) ∧ (¬ ((s3 112 (p1).toNatClampNeg) = 0) → post 1 s10)))))))))))
set_option maxHeartbeats 4000000 in
set_option maxRecDepth 100000 in
theorem io_c_X10_there (l : Launch) (D : va_G) (ca : Nat → ClassId) (ad : Nat → Nat) (A : Nat → Prop) (σ : io_M) (p1 : Int32) (p2 : Int32) (post : Int32 → io_M → Prop) (hw : wp_X10_there σ p1 p2 post) : Met l yX10_there (.code yX10_there cX10_there 4 (some .int) :: io_tb) (io_rm 1) (va_Pc [.ref (ad 111), .int p1, .int p2] (io_W D ca ad A σ)) (va_Qi post (io_W D ca ad A) A) 0 0 A := by
  refine Met.ofW (cc := cX10_there) (maxL := 4) (ret := (some .int)) (by decide) rfl ?_
  intro p e s m args below meth c s₁ Bd hml hv
  obtain ⟨rfl, hW0⟩ := hv
  have Z := io_Z.start hW0
  have B : CallFix p m c cX10_there 4 s _ io_tb RX10 := ⟨Bd.exec, Bd.bytes, hml, findClass_of_methodNamed Bd.named, fun w hw => atoms_spec (ws := (.code yX10_there cX10_there 4 (some .int) :: io_tb)) Bd.pre w (List.mem_cons_of_mem _ hw)⟩
  have hr := Bd.returns
  have hlk := Bd.notSynchronized
  have hl := lv_entry ([.ref (ad 111), .int p1, .int p2]) (n := 4) (Nat.le_of_ble_eq_true rfl)
  rw [lg_entry_eq]
  generalize (lg_sl ([.ref (ad 111), .int p1, .int p2]) ++ List.replicate (4 - (lg_sl ([.ref (ad 111), .int p1, .int p2])).length) Slot.unset).toArray = ls at hl ⊢
  have hl : lv_has ls 4 [(0, .ref (ad 111)), (1, .int p1), (2, .int p2)] := hl
  show W p l e (io_rm 1) s m _ below meth c s.heap [] 0 0 _ (F0 m 0 ls [])
  unfold wp_X10_there at hw
  refine lv_iload_n B.1 B.2.1 dX10_there_0 rfl (lv_at hl 1 rfl) ?_
  refine lv_iconst (v := 0) B.1 B.2.1 dX10_there_1 (by decide) ?_
  refine lv_bipush (v := 7) B.1 B.2.1 dX10_there_2 (by decide) ?_
  refine io_call_i Z (io_runS [.int p1, .int 0, .int 7] [] B Z (io_c_X10_in l D ca ad A _ p1 0 7 _ hw) io_k_10_127 (io_hR (by decide) (by decide)) rfl hl.1 (Nat.le_of_ble_eq_true rfl) dX10_there_4 ⟨Nat.le_refl _, Nat.le_refl _⟩) (fun r2 s3 H locs hw Z => ?_)
  obtain ⟨b4, hw⟩ := hw
  refine lv_if_ne (tgt := 13) B.1 B.2.1 dX10_there_7 (by decide) (fun k5 => ?_) (fun k5 => ?_)
  · have hw := hw.2 k5
    refine lv_aload_n B.1 B.2.1 dX10_there_13 rfl (lv_at hl 0 rfl) ?_
    refine io_g_10_0 B Z dX10_there_14 ?_
    refine lv_iload_n B.1 B.2.1 dX10_there_17 rfl (lv_at hl 1 rfl) ?_
    refine io_zald B Z 112 (by decide) io_e_112 hw.1 dX10_there_18 ?_
    have hw := hw.2
    refine lv_istore_n (lv' := [(3, .int (s3 112 (p1).toNatClampNeg)), (0, .ref (ad 111)), (1, .int p1), (2, .int p2)]) B.1 B.2.1 dX10_there_19 rfl hl (by decide) rfl (fun ls hl => ?_)
    refine lv_iload_n B.1 B.2.1 dX10_there_20 rfl (lv_at hl 3 rfl) ?_
    refine lv_iload_n B.1 B.2.1 dX10_there_21 rfl (lv_at hl 0 rfl) ?_
    refine lv_icmp_eq (tgt := 39) B.1 B.2.1 dX10_there_22 (by decide) (fun k6 => ?_) (fun k6 => ?_)
    · have hw := hw.1 k6
      refine lv_iload_n B.1 B.2.1 dX10_there_39 rfl (lv_at hl 0 rfl) ?_
      refine lv_if_eq (tgt := 47) B.1 B.2.1 dX10_there_40 (by decide) (fun k7 => ?_) (fun k7 => ?_)
      · have hw := hw.1 k7
        refine lv_iconst (v := 0) B.1 B.2.1 dX10_there_47 (by decide) ?_
        exact io_ret_i B Z hr hlk hw dX10_there_48
      · have hw := hw.2 k7
        refine lv_iconst (v := 1) B.1 B.2.1 dX10_there_43 (by decide) ?_
        refine lv_goto (tgt := 48) B.1 B.2.1 dX10_there_44 (by decide) ?_
        exact io_ret_i B Z hr hlk hw dX10_there_48
    · have hw := hw.2 k6
      refine lv_aload_n B.1 B.2.1 dX10_there_25 rfl (lv_at hl 1 rfl) ?_
      refine io_g_10_0 B Z dX10_there_26 ?_
      refine lv_iload_n B.1 B.2.1 dX10_there_29 rfl (lv_at hl 2 rfl) ?_
      refine lv_iload_n B.1 B.2.1 dX10_there_30 rfl (lv_at hl 3 rfl) ?_
      refine io_zast B Z 112 (by decide) io_e_112 hw.1 dX10_there_31 (fun s8 H locs e9 Z => ?_)
      have hw := hw.2 s8 e9
      refine lv_aload_n B.1 B.2.1 dX10_there_32 rfl (lv_at hl 1 rfl) ?_
      refine io_g_10_1 B Z dX10_there_33 ?_
      refine lv_iload_n B.1 B.2.1 dX10_there_36 rfl (lv_at hl 2 rfl) ?_
      refine lv_iconst (v := 0) B.1 B.2.1 dX10_there_37 (by decide) ?_
      refine io_iast B Z 113 (by decide) io_e_113 hw.1 dX10_there_38 (fun s10 H locs e11 Z => ?_)
      have hw := hw.2 s10 e11
      refine lv_iload_n B.1 B.2.1 dX10_there_39 rfl (lv_at hl 0 rfl) ?_
      refine lv_if_eq (tgt := 47) B.1 B.2.1 dX10_there_40 (by decide) (fun k12 => ?_) (fun k12 => ?_)
      · have hw := hw.1 k12
        refine lv_iconst (v := 0) B.1 B.2.1 dX10_there_47 (by decide) ?_
        exact io_ret_i B Z hr hlk hw dX10_there_48
      · have hw := hw.2 k12
        refine lv_iconst (v := 1) B.1 B.2.1 dX10_there_43 (by decide) ?_
        refine lv_goto (tgt := 48) B.1 B.2.1 dX10_there_44 (by decide) ?_
        exact io_ret_i B Z hr hlk hw dX10_there_48
  · have hw := hw.1 k5
    refine lv_bipush (v := (-2)) B.1 B.2.1 dX10_there_10 (by decide) ?_
    exact io_ret_i B Z hr hlk hw dX10_there_12
def wp_X10_permit (σ : io_M) (p1 : Int32) (p2 : Int32) (post : Int32 → io_M → Prop) : Prop := (wp_X10_in σ p1 0 7 (fun r2 s3 => ((r2 = 0 → post (-2) s3) ∧ (¬ (r2 = 0) → (wp_X10_in s3 p2 0 3 (fun r6 s7 => ((r6 = 0 → post (-2) s7) ∧ (¬ (r6 = 0) → (vp_in p1 8 ∧ (vp_in p1 8 ∧ ∀ s10, s10 = io_up s7 115 (p1).toNatClampNeg (p2) → post (s7 115 (p1).toNatClampNeg) s10))))))))))
set_option maxHeartbeats 4000000 in
set_option maxRecDepth 100000 in
theorem io_c_X10_permit (l : Launch) (D : va_G) (ca : Nat → ClassId) (ad : Nat → Nat) (A : Nat → Prop) (σ : io_M) (p1 : Int32) (p2 : Int32) (post : Int32 → io_M → Prop) (hw : wp_X10_permit σ p1 p2 post) : Met l yX10_permit (.code yX10_permit cX10_permit 4 (some .int) :: io_tb) (io_rm 1) (va_Pc [.ref (ad 111), .int p1, .int p2] (io_W D ca ad A σ)) (va_Qi post (io_W D ca ad A) A) 0 0 A := by
  refine Met.ofW (cc := cX10_permit) (maxL := 4) (ret := (some .int)) (by decide) rfl ?_
  intro p e s m args below meth c s₁ Bd hml hv
  obtain ⟨rfl, hW0⟩ := hv
  have Z := io_Z.start hW0
  have B : CallFix p m c cX10_permit 4 s _ io_tb RX10 := ⟨Bd.exec, Bd.bytes, hml, findClass_of_methodNamed Bd.named, fun w hw => atoms_spec (ws := (.code yX10_permit cX10_permit 4 (some .int) :: io_tb)) Bd.pre w (List.mem_cons_of_mem _ hw)⟩
  have hr := Bd.returns
  have hlk := Bd.notSynchronized
  have hl := lv_entry ([.ref (ad 111), .int p1, .int p2]) (n := 4) (Nat.le_of_ble_eq_true rfl)
  rw [lg_entry_eq]
  generalize (lg_sl ([.ref (ad 111), .int p1, .int p2]) ++ List.replicate (4 - (lg_sl ([.ref (ad 111), .int p1, .int p2])).length) Slot.unset).toArray = ls at hl ⊢
  have hl : lv_has ls 4 [(0, .ref (ad 111)), (1, .int p1), (2, .int p2)] := hl
  show W p l e (io_rm 1) s m _ below meth c s.heap [] 0 0 _ (F0 m 0 ls [])
  unfold wp_X10_permit at hw
  refine lv_iload_n B.1 B.2.1 dX10_permit_0 rfl (lv_at hl 1 rfl) ?_
  refine lv_iconst (v := 0) B.1 B.2.1 dX10_permit_1 (by decide) ?_
  refine lv_bipush (v := 7) B.1 B.2.1 dX10_permit_2 (by decide) ?_
  refine io_call_i Z (io_runS [.int p1, .int 0, .int 7] [] B Z (io_c_X10_in l D ca ad A _ p1 0 7 _ hw) io_k_10_127 (io_hR (by decide) (by decide)) rfl hl.1 (Nat.le_of_ble_eq_true rfl) dX10_permit_4 ⟨Nat.le_refl _, Nat.le_refl _⟩) (fun r2 s3 H locs hw Z => ?_)
  obtain ⟨b4, hw⟩ := hw
  refine lv_if_eq (tgt := 19) B.1 B.2.1 dX10_permit_7 (by decide) (fun k5 => ?_) (fun k5 => ?_)
  · have hw := hw.1 k5
    refine lv_bipush (v := (-2)) B.1 B.2.1 dX10_permit_19 (by decide) ?_
    exact io_ret_i B Z hr hlk hw dX10_permit_21
  · have hw := hw.2 k5
    refine lv_iload_n B.1 B.2.1 dX10_permit_10 rfl (lv_at hl 2 rfl) ?_
    refine lv_iconst (v := 0) B.1 B.2.1 dX10_permit_11 (by decide) ?_
    refine lv_iconst (v := 3) B.1 B.2.1 dX10_permit_12 (by decide) ?_
    refine io_call_i Z (io_runS [.int p2, .int 0, .int 3] [] B Z (io_c_X10_in l D ca ad A _ p2 0 3 _ hw) io_k_10_127 (io_hR (by decide) (by decide)) rfl hl.1 (Nat.le_of_ble_eq_true rfl) dX10_permit_13 ⟨Nat.le_refl _, Nat.le_refl _⟩) (fun r6 s7 H locs hw Z => ?_)
    obtain ⟨b8, hw⟩ := hw
    refine lv_if_ne (tgt := 22) B.1 B.2.1 dX10_permit_16 (by decide) (fun k9 => ?_) (fun k9 => ?_)
    · have hw := hw.2 k9
      refine lv_aload_n B.1 B.2.1 dX10_permit_22 rfl (lv_at hl 0 rfl) ?_
      refine io_g_10_3 B Z dX10_permit_23 ?_
      refine lv_iload_n B.1 B.2.1 dX10_permit_26 rfl (lv_at hl 1 rfl) ?_
      refine io_iald B Z 115 (by decide) io_e_115 hw.1 dX10_permit_27 ?_
      have hw := hw.2
      refine lv_istore_n (lv' := [(3, .int (s7 115 (p1).toNatClampNeg)), (0, .ref (ad 111)), (1, .int p1), (2, .int p2)]) B.1 B.2.1 dX10_permit_28 rfl hl (by decide) rfl (fun ls hl => ?_)
      refine lv_aload_n B.1 B.2.1 dX10_permit_29 rfl (lv_at hl 1 rfl) ?_
      refine io_g_10_3 B Z dX10_permit_30 ?_
      refine lv_iload_n B.1 B.2.1 dX10_permit_33 rfl (lv_at hl 2 rfl) ?_
      refine lv_iload_n B.1 B.2.1 dX10_permit_34 rfl (lv_at hl 3 rfl) ?_
      refine io_iast B Z 115 (by decide) io_e_115 hw.1 dX10_permit_35 (fun s10 H locs e11 Z => ?_)
      have hw := hw.2 s10 e11
      refine lv_iload_n B.1 B.2.1 dX10_permit_36 rfl (lv_at hl 0 rfl) ?_
      exact io_ret_i B Z hr hlk hw dX10_permit_37
    · have hw := hw.1 k9
      refine lv_bipush (v := (-2)) B.1 B.2.1 dX10_permit_19 (by decide) ?_
      exact io_ret_i B Z hr hlk hw dX10_permit_21
def wp_X10_input (σ : io_M) (p1 : Int32) (post : Int32 → io_M → Prop) : Prop := (wp_X10_in σ p1 0 255 (fun r2 s3 => ((r2 = 0 → post (-2) s3) ∧ (¬ (r2 = 0) → (((s3 111 4) = 100 → post (-3) s3) ∧ (¬ ((s3 111 4) = 100) → (vp_in (s3 111 4) 100 ∧ ∀ s7, s7 = io_up s3 116 ((s3 111 4)).toNatClampNeg ((((p1).toInt8.toInt32)).toInt8.toInt32) → (∀ s9, s9 = io_up s7 111 4 ((s7 111 4) + 1) → post ((s9 111 4) - (s9 111 5)) s9))))))))
set_option maxHeartbeats 4000000 in
set_option maxRecDepth 100000 in
theorem io_c_X10_input (l : Launch) (D : va_G) (ca : Nat → ClassId) (ad : Nat → Nat) (A : Nat → Prop) (σ : io_M) (p1 : Int32) (post : Int32 → io_M → Prop) (hw : wp_X10_input σ p1 post) : Met l yX10_input (.code yX10_input cX10_input 2 (some .int) :: io_tb) (io_rm 1) (va_Pc [.ref (ad 111), .int p1] (io_W D ca ad A σ)) (va_Qi post (io_W D ca ad A) A) 0 0 A := by
  refine Met.ofW (cc := cX10_input) (maxL := 2) (ret := (some .int)) (by decide) rfl ?_
  intro p e s m args below meth c s₁ Bd hml hv
  obtain ⟨rfl, hW0⟩ := hv
  have Z := io_Z.start hW0
  have B : CallFix p m c cX10_input 2 s _ io_tb RX10 := ⟨Bd.exec, Bd.bytes, hml, findClass_of_methodNamed Bd.named, fun w hw => atoms_spec (ws := (.code yX10_input cX10_input 2 (some .int) :: io_tb)) Bd.pre w (List.mem_cons_of_mem _ hw)⟩
  have hr := Bd.returns
  have hlk := Bd.notSynchronized
  have hl := lv_entry ([.ref (ad 111), .int p1]) (n := 2) (Nat.le_of_ble_eq_true rfl)
  rw [lg_entry_eq]
  generalize (lg_sl ([.ref (ad 111), .int p1]) ++ List.replicate (2 - (lg_sl ([.ref (ad 111), .int p1])).length) Slot.unset).toArray = ls at hl ⊢
  have hl : lv_has ls 2 [(0, .ref (ad 111)), (1, .int p1)] := hl
  show W p l e (io_rm 1) s m _ below meth c s.heap [] 0 0 _ (F0 m 0 ls [])
  unfold wp_X10_input at hw
  refine lv_iload_n B.1 B.2.1 dX10_input_0 rfl (lv_at hl 1 rfl) ?_
  refine lv_iconst (v := 0) B.1 B.2.1 dX10_input_1 (by decide) ?_
  refine lv_sipush (v := 255) B.1 B.2.1 dX10_input_2 (by decide) ?_
  refine io_call_i Z (io_runS [.int p1, .int 0, .int 255] [] B Z (io_c_X10_in l D ca ad A _ p1 0 255 _ hw) io_k_10_127 (io_hR (by decide) (by decide)) rfl hl.1 (Nat.le_of_ble_eq_true rfl) dX10_input_5 ⟨Nat.le_refl _, Nat.le_refl _⟩) (fun r2 s3 H locs hw Z => ?_)
  obtain ⟨b4, hw⟩ := hw
  refine lv_if_ne (tgt := 14) B.1 B.2.1 dX10_input_8 (by decide) (fun k5 => ?_) (fun k5 => ?_)
  · have hw := hw.2 k5
    refine lv_aload_n B.1 B.2.1 dX10_input_14 rfl (lv_at hl 0 rfl) ?_
    refine io_g_10_4 B Z dX10_input_15 ?_
    refine lv_bipush (v := 100) B.1 B.2.1 dX10_input_18 (by decide) ?_
    refine lv_icmp_ne (tgt := 26) B.1 B.2.1 dX10_input_20 (by decide) (fun k6 => ?_) (fun k6 => ?_)
    · have hw := hw.2 k6
      refine lv_aload_n B.1 B.2.1 dX10_input_26 rfl (lv_at hl 0 rfl) ?_
      refine io_g_10_6 B Z dX10_input_27 ?_
      refine lv_aload_n B.1 B.2.1 dX10_input_30 rfl (lv_at hl 0 rfl) ?_
      refine io_g_10_4 B Z dX10_input_31 ?_
      refine lv_iload_n B.1 B.2.1 dX10_input_34 rfl (lv_at hl 1 rfl) ?_
      refine lv_i2b (v := ((p1).toInt8.toInt32)) B.1 B.2.1 dX10_input_35 rfl ?_
      refine io_bast B Z 116 (by decide) io_e_116 hw.1 dX10_input_36 (fun s7 H locs e8 Z => ?_)
      have hw := hw.2 s7 e8
      refine lv_aload_n B.1 B.2.1 dX10_input_37 rfl (lv_at hl 0 rfl) ?_
      refine lv_dup B.1 B.2.1 dX10_input_38 rfl ?_
      refine io_g_10_4 B Z dX10_input_39 ?_
      refine lv_iconst (v := 1) B.1 B.2.1 dX10_input_42 (by decide) ?_
      refine lv_iadd B.1 B.2.1 dX10_input_43 ?_
      refine io_p_10_4 B Z dX10_input_44 (fun s9 H locs e10 Z => ?_)
      have hw := hw s9 e10
      refine lv_aload_n B.1 B.2.1 dX10_input_47 rfl (lv_at hl 0 rfl) ?_
      refine io_g_10_4 B Z dX10_input_48 ?_
      refine lv_aload_n B.1 B.2.1 dX10_input_51 rfl (lv_at hl 0 rfl) ?_
      refine io_g_10_5 B Z dX10_input_52 ?_
      refine lv_isub B.1 B.2.1 dX10_input_55 ?_
      exact io_ret_i B Z hr hlk hw dX10_input_56
    · have hw := hw.1 k6
      refine lv_bipush (v := (-3)) B.1 B.2.1 dX10_input_23 (by decide) ?_
      exact io_ret_i B Z hr hlk hw dX10_input_25
  · have hw := hw.1 k5
    refine lv_bipush (v := (-2)) B.1 B.2.1 dX10_input_11 (by decide) ?_
    exact io_ret_i B Z hr hlk hw dX10_input_13
def wp_X10_isNode (σ : io_M) (p1 : Int32) (post : Int32 → io_M → Prop) : Prop := (wp_X10_in σ p1 0 ((σ 111 9) - 1) (fun r2 s3 => post r2 s3))
set_option maxHeartbeats 4000000 in
set_option maxRecDepth 100000 in
theorem io_c_X10_isNode (l : Launch) (D : va_G) (ca : Nat → ClassId) (ad : Nat → Nat) (A : Nat → Prop) (σ : io_M) (p1 : Int32) (post : Int32 → io_M → Prop) (hw : wp_X10_isNode σ p1 post) : Met l yX10_isNode (.code yX10_isNode cX10_isNode 2 (some .boolean) :: io_tb) (io_rm 1) (va_Pc [.ref (ad 111), .int p1] (io_W D ca ad A σ)) (va_Qi (fun r u => io_bl r ∧ post r u) (io_W D ca ad A) A) 0 0 A := by
  refine Met.ofW (cc := cX10_isNode) (maxL := 2) (ret := (some .boolean)) (by decide) rfl ?_
  intro p e s m args below meth c s₁ Bd hml hv
  obtain ⟨rfl, hW0⟩ := hv
  have Z := io_Z.start hW0
  have B : CallFix p m c cX10_isNode 2 s _ io_tb RX10 := ⟨Bd.exec, Bd.bytes, hml, findClass_of_methodNamed Bd.named, fun w hw => atoms_spec (ws := (.code yX10_isNode cX10_isNode 2 (some .boolean) :: io_tb)) Bd.pre w (List.mem_cons_of_mem _ hw)⟩
  have hr := Bd.returns
  have hlk := Bd.notSynchronized
  have hl := lv_entry ([.ref (ad 111), .int p1]) (n := 2) (Nat.le_of_ble_eq_true rfl)
  rw [lg_entry_eq]
  generalize (lg_sl ([.ref (ad 111), .int p1]) ++ List.replicate (2 - (lg_sl ([.ref (ad 111), .int p1])).length) Slot.unset).toArray = ls at hl ⊢
  have hl : lv_has ls 2 [(0, .ref (ad 111)), (1, .int p1)] := hl
  show W p l e (io_rm 1) s m _ below meth c s.heap [] 0 0 _ (F0 m 0 ls [])
  unfold wp_X10_isNode at hw
  refine lv_iload_n B.1 B.2.1 dX10_isNode_0 rfl (lv_at hl 1 rfl) ?_
  refine lv_iconst (v := 0) B.1 B.2.1 dX10_isNode_1 (by decide) ?_
  refine lv_aload_n B.1 B.2.1 dX10_isNode_2 rfl (lv_at hl 0 rfl) ?_
  refine io_g_10_9 B Z dX10_isNode_3 ?_
  refine lv_iconst (v := 1) B.1 B.2.1 dX10_isNode_6 (by decide) ?_
  refine lv_isub B.1 B.2.1 dX10_isNode_7 ?_
  refine io_call_i Z (io_runS [.int p1, .int 0, .int ((σ 111 9) - 1)] [] B Z (io_c_X10_in l D ca ad A _ p1 0 ((σ 111 9) - 1) _ hw) io_k_10_127 (io_hR (by decide) (by decide)) rfl hl.1 (Nat.le_of_ble_eq_true rfl) dX10_isNode_8 ⟨Nat.le_refl _, Nat.le_refl _⟩) (fun r2 s3 H locs hw Z => ?_)
  obtain ⟨b4, hw⟩ := hw
  exact io_ret_z B Z hr hlk b4 hw dX10_isNode_11
def wp_X10_areParts (σ : io_M) (p1 : Int32) (p2 : Int32) (p3 : Int32) (p4 : Int32) (post : Int32 → io_M → Prop) : Prop := ((p1 = 0 ∨ p1 = 18 → post 1 σ) ∧ (¬ (p1 = 0 ∨ p1 = 18) → ((p1 = 1 → (wp_X10_in σ p2 0 5 (fun r4 s5 => post r4 s5))) ∧ (¬ (p1 = 1) → ((p1 = 2 → (wp_X10_in σ p2 0 5 (fun r8 s9 => ((r8 = 0 → post 0 s9) ∧ (¬ (r8 = 0) → (wp_X10_isNode s9 p3 (fun r12 s13 => ((r12 = 0 → post 0 s13) ∧ (¬ (r12 = 0) → post 1 s13))))))))) ∧ (¬ (p1 = 2) → ((p1 = 3 → (wp_X10_in σ p2 0 7 (fun r17 s18 => ((r17 = 0 → post 0 s18) ∧ (¬ (r17 = 0) → (wp_X10_in s18 p3 0 3 (fun r21 s22 => ((r21 = 0 → post 0 s22) ∧ (¬ (r21 = 0) → post 1 s22))))))))) ∧ (¬ (p1 = 3) → ((p1 = 4 ∨ p1 = 6 ∨ p1 = 7 ∨ p1 = 9 ∨ p1 = 11 ∨ p1 = 12 ∨ p1 = 14 ∨ p1 = 17 ∨ p1 = 25 → (wp_X10_isNode σ p2 (fun r26 s27 => post r26 s27))) ∧ (¬ (p1 = 4 ∨ p1 = 6 ∨ p1 = 7 ∨ p1 = 9 ∨ p1 = 11 ∨ p1 = 12 ∨ p1 = 14 ∨ p1 = 17 ∨ p1 = 25) → ((p1 = 13 → (wp_X10_isNode σ p2 (fun r30 s31 => ((r30 = 0 → post 0 s31) ∧ (¬ (r30 = 0) → (wp_X10_in s31 p3 0 9 (fun r34 s35 => ((r34 = 0 → post 0 s35) ∧ (¬ (r34 = 0) → post 1 s35))))))))) ∧ (¬ (p1 = 13) → ((p1 = 15 → (wp_X10_in σ p2 0 7 (fun r39 s40 => post r39 s40))) ∧ (¬ (p1 = 15) → ((p1 = 16 → (wp_X10_in σ p2 0 7 (fun r43 s44 => ((r43 = 0 → post 0 s44) ∧ (¬ (r43 = 0) → (wp_X10_in s44 p3 0 7 (fun r47 s48 => ((r47 = 0 → post 0 s48) ∧ (¬ (r47 = 0) → post 1 s48))))))))) ∧ (¬ (p1 = 16) → ((p1 = 20 ∨ p1 = 28 → (wp_X10_isNode σ p2 (fun r52 s53 => ((r52 = 0 → post 0 s53) ∧ (¬ (r52 = 0) → (wp_X10_isNode s53 p3 (fun r56 s57 => ((r56 = 0 → post 0 s57) ∧ (¬ (r56 = 0) → (wp_X10_isNode s57 p4 (fun r60 s61 => ((r60 = 0 → post 0 s61) ∧ (¬ (r60 = 0) → post 1 s61))))))))))))) ∧ (¬ (p1 = 20 ∨ p1 = 28) → ((p1 = 24 → (wp_X10_in σ p2 0 6 (fun r65 s66 => post r65 s66))) ∧ (¬ (p1 = 24) → ((p1 = 26 → (wp_X10_isNode σ p2 (fun r69 s70 => ((r69 = 0 → post 0 s70) ∧ (¬ (r69 = 0) → (wp_X10_isNode s70 p3 (fun r73 s74 => ((r73 = 0 → post 0 s74) ∧ (¬ (r73 = 0) → (wp_X10_in s74 p4 0 127 (fun r77 s78 => ((r77 = 0 → post 0 s78) ∧ (¬ (r77 = 0) → post 1 s78))))))))))))) ∧ (¬ (p1 = 26) → (wp_X10_isNode σ p2 (fun r81 s82 => ((r81 = 0 → post 0 s82) ∧ (¬ (r81 = 0) → (wp_X10_isNode s82 p3 (fun r85 s86 => ((r85 = 0 → post 0 s86) ∧ (¬ (r85 = 0) → post 1 s86))))))))))))))))))))))))))))))
set_option maxHeartbeats 4000000 in
set_option maxRecDepth 100000 in
theorem io_c_X10_areParts (l : Launch) (D : va_G) (ca : Nat → ClassId) (ad : Nat → Nat) (A : Nat → Prop) (σ : io_M) (p1 : Int32) (p2 : Int32) (p3 : Int32) (p4 : Int32) (post : Int32 → io_M → Prop) (hw : wp_X10_areParts σ p1 p2 p3 p4 post) : Met l yX10_areParts (.code yX10_areParts cX10_areParts 5 (some .boolean) :: io_tb) (io_rm 2) (va_Pc [.ref (ad 111), .int p1, .int p2, .int p3, .int p4] (io_W D ca ad A σ)) (va_Qi (fun r u => io_bl r ∧ post r u) (io_W D ca ad A) A) 0 0 A := by
  refine Met.ofW (cc := cX10_areParts) (maxL := 5) (ret := (some .boolean)) (by decide) rfl ?_
  intro p e s m args below meth c s₁ Bd hml hv
  obtain ⟨rfl, hW0⟩ := hv
  have Z := io_Z.start hW0
  have B : CallFix p m c cX10_areParts 5 s _ io_tb RX10 := ⟨Bd.exec, Bd.bytes, hml, findClass_of_methodNamed Bd.named, fun w hw => atoms_spec (ws := (.code yX10_areParts cX10_areParts 5 (some .boolean) :: io_tb)) Bd.pre w (List.mem_cons_of_mem _ hw)⟩
  have hr := Bd.returns
  have hlk := Bd.notSynchronized
  have hl := lv_entry ([.ref (ad 111), .int p1, .int p2, .int p3, .int p4]) (n := 5) (Nat.le_of_ble_eq_true rfl)
  rw [lg_entry_eq]
  generalize (lg_sl ([.ref (ad 111), .int p1, .int p2, .int p3, .int p4]) ++ List.replicate (5 - (lg_sl ([.ref (ad 111), .int p1, .int p2, .int p3, .int p4])).length) Slot.unset).toArray = ls at hl ⊢
  have hl : lv_has ls 5 [(0, .ref (ad 111)), (1, .int p1), (2, .int p2), (3, .int p3), (4, .int p4)] := hl
  show W p l e (io_rm 2) s m _ below meth c s.heap [] 0 0 _ (F0 m 0 ls [])
  unfold wp_X10_areParts at hw
  refine lv_iload_n B.1 B.2.1 dX10_areParts_0 rfl (lv_at hl 1 rfl) ?_
  rcases Classical.em (p1 = 0 ∨ p1 = 18) with k2 | k2
  · have hw := hw.1 k2
    refine lv_tableIn (tgt := 132) (off := 131) B.1 B.2.1 dX10_areParts_1 (by rcases k2 with k2 | k2 <;> rw [k2] <;> decide) (by rcases k2 with k2 | k2 <;> rw [k2] <;> decide) (by rcases k2 with k2 | k2 <;> rw [k2] <;> decide) (by decide) ?_
    refine lv_iconst (v := 1) B.1 B.2.1 dX10_areParts_132 (by decide) ?_
    exact io_ret_z B Z hr hlk (Or.inr rfl) hw dX10_areParts_133
  have hw := hw.2 k2
  rcases Classical.em (p1 = 1) with k3 | k3
  · have hw := hw.1 k3
    refine lv_tableIn (tgt := 134) (off := 133) B.1 B.2.1 dX10_areParts_1 (by rw [k3]; decide) (by rw [k3]; decide) (by rw [k3]; decide) (by decide) ?_
    refine lv_iload_n B.1 B.2.1 dX10_areParts_134 rfl (lv_at hl 2 rfl) ?_
    refine lv_iconst (v := 0) B.1 B.2.1 dX10_areParts_135 (by decide) ?_
    refine lv_iconst (v := 5) B.1 B.2.1 dX10_areParts_136 (by decide) ?_
    refine io_call_i Z (io_runS [.int p2, .int 0, .int 5] [] B Z (io_c_X10_in l D ca ad A _ p2 0 5 _ hw) io_k_10_127 (io_hR (by decide) (by decide)) rfl hl.1 (Nat.le_of_ble_eq_true rfl) dX10_areParts_137 ⟨Nat.le_refl _, Nat.le_refl _⟩) (fun r4 s5 H locs hw Z => ?_)
    obtain ⟨b6, hw⟩ := hw
    exact io_ret_z B Z hr hlk b6 hw dX10_areParts_140
  have hw := hw.2 k3
  rcases Classical.em (p1 = 2) with k7 | k7
  · have hw := hw.1 k7
    refine lv_tableIn (tgt := 141) (off := 140) B.1 B.2.1 dX10_areParts_1 (by rw [k7]; decide) (by rw [k7]; decide) (by rw [k7]; decide) (by decide) ?_
    refine lv_iload_n B.1 B.2.1 dX10_areParts_141 rfl (lv_at hl 2 rfl) ?_
    refine lv_iconst (v := 0) B.1 B.2.1 dX10_areParts_142 (by decide) ?_
    refine lv_iconst (v := 5) B.1 B.2.1 dX10_areParts_143 (by decide) ?_
    refine io_call_i Z (io_runS [.int p2, .int 0, .int 5] [] B Z (io_c_X10_in l D ca ad A _ p2 0 5 _ hw) io_k_10_127 (io_hR (by decide) (by decide)) rfl hl.1 (Nat.le_of_ble_eq_true rfl) dX10_areParts_144 ⟨Nat.le_refl _, Nat.le_refl _⟩) (fun r8 s9 H locs hw Z => ?_)
    obtain ⟨b10, hw⟩ := hw
    refine lv_if_eq (tgt := 162) B.1 B.2.1 dX10_areParts_147 (by decide) (fun k11 => ?_) (fun k11 => ?_)
    · have hw := hw.1 k11
      refine lv_iconst (v := 0) B.1 B.2.1 dX10_areParts_162 (by decide) ?_
      exact io_ret_z B Z hr hlk (Or.inl rfl) hw dX10_areParts_163
    · have hw := hw.2 k11
      refine lv_aload_n B.1 B.2.1 dX10_areParts_150 rfl (lv_at hl 0 rfl) ?_
      refine lv_iload_n B.1 B.2.1 dX10_areParts_151 rfl (lv_at hl 3 rfl) ?_
      refine io_call_i Z (io_runV (ci := 10) (k := 111) [.int p3] [] B Z (io_c_X10_isNode l D ca ad A _ p3 _ hw) io_k_10_144 (io_hR (by decide) (by decide)) rfl (by decide) (io_e_111 _) rfl hl.1 (Nat.le_of_ble_eq_true rfl) dX10_areParts_152 ⟨Nat.le_refl _, Nat.le_refl _⟩) (fun r12 s13 H locs hw Z => ?_)
      obtain ⟨b14, hw⟩ := hw
      refine lv_if_eq (tgt := 162) B.1 B.2.1 dX10_areParts_155 (by decide) (fun k15 => ?_) (fun k15 => ?_)
      · have hw := hw.1 k15
        refine lv_iconst (v := 0) B.1 B.2.1 dX10_areParts_162 (by decide) ?_
        exact io_ret_z B Z hr hlk (Or.inl rfl) hw dX10_areParts_163
      · have hw := hw.2 k15
        refine lv_iconst (v := 1) B.1 B.2.1 dX10_areParts_158 (by decide) ?_
        refine lv_goto (tgt := 163) B.1 B.2.1 dX10_areParts_159 (by decide) ?_
        exact io_ret_z B Z hr hlk (Or.inr rfl) hw dX10_areParts_163
  have hw := hw.2 k7
  rcases Classical.em (p1 = 3) with k16 | k16
  · have hw := hw.1 k16
    refine lv_tableIn (tgt := 164) (off := 163) B.1 B.2.1 dX10_areParts_1 (by rw [k16]; decide) (by rw [k16]; decide) (by rw [k16]; decide) (by decide) ?_
    refine lv_iload_n B.1 B.2.1 dX10_areParts_164 rfl (lv_at hl 2 rfl) ?_
    refine lv_iconst (v := 0) B.1 B.2.1 dX10_areParts_165 (by decide) ?_
    refine lv_bipush (v := 7) B.1 B.2.1 dX10_areParts_166 (by decide) ?_
    refine io_call_i Z (io_runS [.int p2, .int 0, .int 7] [] B Z (io_c_X10_in l D ca ad A _ p2 0 7 _ hw) io_k_10_127 (io_hR (by decide) (by decide)) rfl hl.1 (Nat.le_of_ble_eq_true rfl) dX10_areParts_168 ⟨Nat.le_refl _, Nat.le_refl _⟩) (fun r17 s18 H locs hw Z => ?_)
    obtain ⟨b19, hw⟩ := hw
    refine lv_if_eq (tgt := 187) B.1 B.2.1 dX10_areParts_171 (by decide) (fun k20 => ?_) (fun k20 => ?_)
    · have hw := hw.1 k20
      refine lv_iconst (v := 0) B.1 B.2.1 dX10_areParts_187 (by decide) ?_
      exact io_ret_z B Z hr hlk (Or.inl rfl) hw dX10_areParts_188
    · have hw := hw.2 k20
      refine lv_iload_n B.1 B.2.1 dX10_areParts_174 rfl (lv_at hl 3 rfl) ?_
      refine lv_iconst (v := 0) B.1 B.2.1 dX10_areParts_175 (by decide) ?_
      refine lv_iconst (v := 3) B.1 B.2.1 dX10_areParts_176 (by decide) ?_
      refine io_call_i Z (io_runS [.int p3, .int 0, .int 3] [] B Z (io_c_X10_in l D ca ad A _ p3 0 3 _ hw) io_k_10_127 (io_hR (by decide) (by decide)) rfl hl.1 (Nat.le_of_ble_eq_true rfl) dX10_areParts_177 ⟨Nat.le_refl _, Nat.le_refl _⟩) (fun r21 s22 H locs hw Z => ?_)
      obtain ⟨b23, hw⟩ := hw
      refine lv_if_eq (tgt := 187) B.1 B.2.1 dX10_areParts_180 (by decide) (fun k24 => ?_) (fun k24 => ?_)
      · have hw := hw.1 k24
        refine lv_iconst (v := 0) B.1 B.2.1 dX10_areParts_187 (by decide) ?_
        exact io_ret_z B Z hr hlk (Or.inl rfl) hw dX10_areParts_188
      · have hw := hw.2 k24
        refine lv_iconst (v := 1) B.1 B.2.1 dX10_areParts_183 (by decide) ?_
        refine lv_goto (tgt := 188) B.1 B.2.1 dX10_areParts_184 (by decide) ?_
        exact io_ret_z B Z hr hlk (Or.inr rfl) hw dX10_areParts_188
  have hw := hw.2 k16
  rcases Classical.em (p1 = 4 ∨ p1 = 6 ∨ p1 = 7 ∨ p1 = 9 ∨ p1 = 11 ∨ p1 = 12 ∨ p1 = 14 ∨ p1 = 17 ∨ p1 = 25) with k25 | k25
  · have hw := hw.1 k25
    refine lv_tableIn (tgt := 189) (off := 188) B.1 B.2.1 dX10_areParts_1 (by rcases k25 with k25 | k25 | k25 | k25 | k25 | k25 | k25 | k25 | k25 <;> rw [k25] <;> decide) (by rcases k25 with k25 | k25 | k25 | k25 | k25 | k25 | k25 | k25 | k25 <;> rw [k25] <;> decide) (by rcases k25 with k25 | k25 | k25 | k25 | k25 | k25 | k25 | k25 | k25 <;> rw [k25] <;> decide) (by decide) ?_
    refine lv_aload_n B.1 B.2.1 dX10_areParts_189 rfl (lv_at hl 0 rfl) ?_
    refine lv_iload_n B.1 B.2.1 dX10_areParts_190 rfl (lv_at hl 2 rfl) ?_
    refine io_call_i Z (io_runV (ci := 10) (k := 111) [.int p2] [] B Z (io_c_X10_isNode l D ca ad A _ p2 _ hw) io_k_10_144 (io_hR (by decide) (by decide)) rfl (by decide) (io_e_111 _) rfl hl.1 (Nat.le_of_ble_eq_true rfl) dX10_areParts_191 ⟨Nat.le_refl _, Nat.le_refl _⟩) (fun r26 s27 H locs hw Z => ?_)
    obtain ⟨b28, hw⟩ := hw
    exact io_ret_z B Z hr hlk b28 hw dX10_areParts_194
  have hw := hw.2 k25
  rcases Classical.em (p1 = 13) with k29 | k29
  · have hw := hw.1 k29
    refine lv_tableIn (tgt := 195) (off := 194) B.1 B.2.1 dX10_areParts_1 (by rw [k29]; decide) (by rw [k29]; decide) (by rw [k29]; decide) (by decide) ?_
    refine lv_aload_n B.1 B.2.1 dX10_areParts_195 rfl (lv_at hl 0 rfl) ?_
    refine lv_iload_n B.1 B.2.1 dX10_areParts_196 rfl (lv_at hl 2 rfl) ?_
    refine io_call_i Z (io_runV (ci := 10) (k := 111) [.int p2] [] B Z (io_c_X10_isNode l D ca ad A _ p2 _ hw) io_k_10_144 (io_hR (by decide) (by decide)) rfl (by decide) (io_e_111 _) rfl hl.1 (Nat.le_of_ble_eq_true rfl) dX10_areParts_197 ⟨Nat.le_refl _, Nat.le_refl _⟩) (fun r30 s31 H locs hw Z => ?_)
    obtain ⟨b32, hw⟩ := hw
    refine lv_if_eq (tgt := 217) B.1 B.2.1 dX10_areParts_200 (by decide) (fun k33 => ?_) (fun k33 => ?_)
    · have hw := hw.1 k33
      refine lv_iconst (v := 0) B.1 B.2.1 dX10_areParts_217 (by decide) ?_
      exact io_ret_z B Z hr hlk (Or.inl rfl) hw dX10_areParts_218
    · have hw := hw.2 k33
      refine lv_iload_n B.1 B.2.1 dX10_areParts_203 rfl (lv_at hl 3 rfl) ?_
      refine lv_iconst (v := 0) B.1 B.2.1 dX10_areParts_204 (by decide) ?_
      refine lv_bipush (v := 9) B.1 B.2.1 dX10_areParts_205 (by decide) ?_
      refine io_call_i Z (io_runS [.int p3, .int 0, .int 9] [] B Z (io_c_X10_in l D ca ad A _ p3 0 9 _ hw) io_k_10_127 (io_hR (by decide) (by decide)) rfl hl.1 (Nat.le_of_ble_eq_true rfl) dX10_areParts_207 ⟨Nat.le_refl _, Nat.le_refl _⟩) (fun r34 s35 H locs hw Z => ?_)
      obtain ⟨b36, hw⟩ := hw
      refine lv_if_eq (tgt := 217) B.1 B.2.1 dX10_areParts_210 (by decide) (fun k37 => ?_) (fun k37 => ?_)
      · have hw := hw.1 k37
        refine lv_iconst (v := 0) B.1 B.2.1 dX10_areParts_217 (by decide) ?_
        exact io_ret_z B Z hr hlk (Or.inl rfl) hw dX10_areParts_218
      · have hw := hw.2 k37
        refine lv_iconst (v := 1) B.1 B.2.1 dX10_areParts_213 (by decide) ?_
        refine lv_goto (tgt := 218) B.1 B.2.1 dX10_areParts_214 (by decide) ?_
        exact io_ret_z B Z hr hlk (Or.inr rfl) hw dX10_areParts_218
  have hw := hw.2 k29
  rcases Classical.em (p1 = 15) with k38 | k38
  · have hw := hw.1 k38
    refine lv_tableIn (tgt := 219) (off := 218) B.1 B.2.1 dX10_areParts_1 (by rw [k38]; decide) (by rw [k38]; decide) (by rw [k38]; decide) (by decide) ?_
    refine lv_iload_n B.1 B.2.1 dX10_areParts_219 rfl (lv_at hl 2 rfl) ?_
    refine lv_iconst (v := 0) B.1 B.2.1 dX10_areParts_220 (by decide) ?_
    refine lv_bipush (v := 7) B.1 B.2.1 dX10_areParts_221 (by decide) ?_
    refine io_call_i Z (io_runS [.int p2, .int 0, .int 7] [] B Z (io_c_X10_in l D ca ad A _ p2 0 7 _ hw) io_k_10_127 (io_hR (by decide) (by decide)) rfl hl.1 (Nat.le_of_ble_eq_true rfl) dX10_areParts_223 ⟨Nat.le_refl _, Nat.le_refl _⟩) (fun r39 s40 H locs hw Z => ?_)
    obtain ⟨b41, hw⟩ := hw
    exact io_ret_z B Z hr hlk b41 hw dX10_areParts_226
  have hw := hw.2 k38
  rcases Classical.em (p1 = 16) with k42 | k42
  · have hw := hw.1 k42
    refine lv_tableIn (tgt := 227) (off := 226) B.1 B.2.1 dX10_areParts_1 (by rw [k42]; decide) (by rw [k42]; decide) (by rw [k42]; decide) (by decide) ?_
    refine lv_iload_n B.1 B.2.1 dX10_areParts_227 rfl (lv_at hl 2 rfl) ?_
    refine lv_iconst (v := 0) B.1 B.2.1 dX10_areParts_228 (by decide) ?_
    refine lv_bipush (v := 7) B.1 B.2.1 dX10_areParts_229 (by decide) ?_
    refine io_call_i Z (io_runS [.int p2, .int 0, .int 7] [] B Z (io_c_X10_in l D ca ad A _ p2 0 7 _ hw) io_k_10_127 (io_hR (by decide) (by decide)) rfl hl.1 (Nat.le_of_ble_eq_true rfl) dX10_areParts_231 ⟨Nat.le_refl _, Nat.le_refl _⟩) (fun r43 s44 H locs hw Z => ?_)
    obtain ⟨b45, hw⟩ := hw
    refine lv_if_eq (tgt := 251) B.1 B.2.1 dX10_areParts_234 (by decide) (fun k46 => ?_) (fun k46 => ?_)
    · have hw := hw.1 k46
      refine lv_iconst (v := 0) B.1 B.2.1 dX10_areParts_251 (by decide) ?_
      exact io_ret_z B Z hr hlk (Or.inl rfl) hw dX10_areParts_252
    · have hw := hw.2 k46
      refine lv_iload_n B.1 B.2.1 dX10_areParts_237 rfl (lv_at hl 3 rfl) ?_
      refine lv_iconst (v := 0) B.1 B.2.1 dX10_areParts_238 (by decide) ?_
      refine lv_bipush (v := 7) B.1 B.2.1 dX10_areParts_239 (by decide) ?_
      refine io_call_i Z (io_runS [.int p3, .int 0, .int 7] [] B Z (io_c_X10_in l D ca ad A _ p3 0 7 _ hw) io_k_10_127 (io_hR (by decide) (by decide)) rfl hl.1 (Nat.le_of_ble_eq_true rfl) dX10_areParts_241 ⟨Nat.le_refl _, Nat.le_refl _⟩) (fun r47 s48 H locs hw Z => ?_)
      obtain ⟨b49, hw⟩ := hw
      refine lv_if_eq (tgt := 251) B.1 B.2.1 dX10_areParts_244 (by decide) (fun k50 => ?_) (fun k50 => ?_)
      · have hw := hw.1 k50
        refine lv_iconst (v := 0) B.1 B.2.1 dX10_areParts_251 (by decide) ?_
        exact io_ret_z B Z hr hlk (Or.inl rfl) hw dX10_areParts_252
      · have hw := hw.2 k50
        refine lv_iconst (v := 1) B.1 B.2.1 dX10_areParts_247 (by decide) ?_
        refine lv_goto (tgt := 252) B.1 B.2.1 dX10_areParts_248 (by decide) ?_
        exact io_ret_z B Z hr hlk (Or.inr rfl) hw dX10_areParts_252
  have hw := hw.2 k42
  rcases Classical.em (p1 = 20 ∨ p1 = 28) with k51 | k51
  · have hw := hw.1 k51
    refine lv_tableIn (tgt := 253) (off := 252) B.1 B.2.1 dX10_areParts_1 (by rcases k51 with k51 | k51 <;> rw [k51] <;> decide) (by rcases k51 with k51 | k51 <;> rw [k51] <;> decide) (by rcases k51 with k51 | k51 <;> rw [k51] <;> decide) (by decide) ?_
    refine lv_aload_n B.1 B.2.1 dX10_areParts_253 rfl (lv_at hl 0 rfl) ?_
    refine lv_iload_n B.1 B.2.1 dX10_areParts_254 rfl (lv_at hl 2 rfl) ?_
    refine io_call_i Z (io_runV (ci := 10) (k := 111) [.int p2] [] B Z (io_c_X10_isNode l D ca ad A _ p2 _ hw) io_k_10_144 (io_hR (by decide) (by decide)) rfl (by decide) (io_e_111 _) rfl hl.1 (Nat.le_of_ble_eq_true rfl) dX10_areParts_255 ⟨Nat.le_refl _, Nat.le_refl _⟩) (fun r52 s53 H locs hw Z => ?_)
    obtain ⟨b54, hw⟩ := hw
    refine lv_if_eq (tgt := 282) B.1 B.2.1 dX10_areParts_258 (by decide) (fun k55 => ?_) (fun k55 => ?_)
    · have hw := hw.1 k55
      refine lv_iconst (v := 0) B.1 B.2.1 dX10_areParts_282 (by decide) ?_
      exact io_ret_z B Z hr hlk (Or.inl rfl) hw dX10_areParts_283
    · have hw := hw.2 k55
      refine lv_aload_n B.1 B.2.1 dX10_areParts_261 rfl (lv_at hl 0 rfl) ?_
      refine lv_iload_n B.1 B.2.1 dX10_areParts_262 rfl (lv_at hl 3 rfl) ?_
      refine io_call_i Z (io_runV (ci := 10) (k := 111) [.int p3] [] B Z (io_c_X10_isNode l D ca ad A _ p3 _ hw) io_k_10_144 (io_hR (by decide) (by decide)) rfl (by decide) (io_e_111 _) rfl hl.1 (Nat.le_of_ble_eq_true rfl) dX10_areParts_263 ⟨Nat.le_refl _, Nat.le_refl _⟩) (fun r56 s57 H locs hw Z => ?_)
      obtain ⟨b58, hw⟩ := hw
      refine lv_if_eq (tgt := 282) B.1 B.2.1 dX10_areParts_266 (by decide) (fun k59 => ?_) (fun k59 => ?_)
      · have hw := hw.1 k59
        refine lv_iconst (v := 0) B.1 B.2.1 dX10_areParts_282 (by decide) ?_
        exact io_ret_z B Z hr hlk (Or.inl rfl) hw dX10_areParts_283
      · have hw := hw.2 k59
        refine lv_aload_n B.1 B.2.1 dX10_areParts_269 rfl (lv_at hl 0 rfl) ?_
        refine lv_iload B.1 B.2.1 dX10_areParts_270 (lv_at hl 4 rfl) ?_
        refine io_call_i Z (io_runV (ci := 10) (k := 111) [.int p4] [] B Z (io_c_X10_isNode l D ca ad A _ p4 _ hw) io_k_10_144 (io_hR (by decide) (by decide)) rfl (by decide) (io_e_111 _) rfl hl.1 (Nat.le_of_ble_eq_true rfl) dX10_areParts_272 ⟨Nat.le_refl _, Nat.le_refl _⟩) (fun r60 s61 H locs hw Z => ?_)
        obtain ⟨b62, hw⟩ := hw
        refine lv_if_eq (tgt := 282) B.1 B.2.1 dX10_areParts_275 (by decide) (fun k63 => ?_) (fun k63 => ?_)
        · have hw := hw.1 k63
          refine lv_iconst (v := 0) B.1 B.2.1 dX10_areParts_282 (by decide) ?_
          exact io_ret_z B Z hr hlk (Or.inl rfl) hw dX10_areParts_283
        · have hw := hw.2 k63
          refine lv_iconst (v := 1) B.1 B.2.1 dX10_areParts_278 (by decide) ?_
          refine lv_goto (tgt := 283) B.1 B.2.1 dX10_areParts_279 (by decide) ?_
          exact io_ret_z B Z hr hlk (Or.inr rfl) hw dX10_areParts_283
  have hw := hw.2 k51
  rcases Classical.em (p1 = 24) with k64 | k64
  · have hw := hw.1 k64
    refine lv_tableIn (tgt := 284) (off := 283) B.1 B.2.1 dX10_areParts_1 (by rw [k64]; decide) (by rw [k64]; decide) (by rw [k64]; decide) (by decide) ?_
    refine lv_iload_n B.1 B.2.1 dX10_areParts_284 rfl (lv_at hl 2 rfl) ?_
    refine lv_iconst (v := 0) B.1 B.2.1 dX10_areParts_285 (by decide) ?_
    refine lv_bipush (v := 6) B.1 B.2.1 dX10_areParts_286 (by decide) ?_
    refine io_call_i Z (io_runS [.int p2, .int 0, .int 6] [] B Z (io_c_X10_in l D ca ad A _ p2 0 6 _ hw) io_k_10_127 (io_hR (by decide) (by decide)) rfl hl.1 (Nat.le_of_ble_eq_true rfl) dX10_areParts_288 ⟨Nat.le_refl _, Nat.le_refl _⟩) (fun r65 s66 H locs hw Z => ?_)
    obtain ⟨b67, hw⟩ := hw
    exact io_ret_z B Z hr hlk b67 hw dX10_areParts_291
  have hw := hw.2 k64
  rcases Classical.em (p1 = 26) with k68 | k68
  · have hw := hw.1 k68
    refine lv_tableIn (tgt := 292) (off := 291) B.1 B.2.1 dX10_areParts_1 (by rw [k68]; decide) (by rw [k68]; decide) (by rw [k68]; decide) (by decide) ?_
    refine lv_aload_n B.1 B.2.1 dX10_areParts_292 rfl (lv_at hl 0 rfl) ?_
    refine lv_iload_n B.1 B.2.1 dX10_areParts_293 rfl (lv_at hl 2 rfl) ?_
    refine io_call_i Z (io_runV (ci := 10) (k := 111) [.int p2] [] B Z (io_c_X10_isNode l D ca ad A _ p2 _ hw) io_k_10_144 (io_hR (by decide) (by decide)) rfl (by decide) (io_e_111 _) rfl hl.1 (Nat.le_of_ble_eq_true rfl) dX10_areParts_294 ⟨Nat.le_refl _, Nat.le_refl _⟩) (fun r69 s70 H locs hw Z => ?_)
    obtain ⟨b71, hw⟩ := hw
    refine lv_if_eq (tgt := 323) B.1 B.2.1 dX10_areParts_297 (by decide) (fun k72 => ?_) (fun k72 => ?_)
    · have hw := hw.1 k72
      refine lv_iconst (v := 0) B.1 B.2.1 dX10_areParts_323 (by decide) ?_
      exact io_ret_z B Z hr hlk (Or.inl rfl) hw dX10_areParts_324
    · have hw := hw.2 k72
      refine lv_aload_n B.1 B.2.1 dX10_areParts_300 rfl (lv_at hl 0 rfl) ?_
      refine lv_iload_n B.1 B.2.1 dX10_areParts_301 rfl (lv_at hl 3 rfl) ?_
      refine io_call_i Z (io_runV (ci := 10) (k := 111) [.int p3] [] B Z (io_c_X10_isNode l D ca ad A _ p3 _ hw) io_k_10_144 (io_hR (by decide) (by decide)) rfl (by decide) (io_e_111 _) rfl hl.1 (Nat.le_of_ble_eq_true rfl) dX10_areParts_302 ⟨Nat.le_refl _, Nat.le_refl _⟩) (fun r73 s74 H locs hw Z => ?_)
      obtain ⟨b75, hw⟩ := hw
      refine lv_if_eq (tgt := 323) B.1 B.2.1 dX10_areParts_305 (by decide) (fun k76 => ?_) (fun k76 => ?_)
      · have hw := hw.1 k76
        refine lv_iconst (v := 0) B.1 B.2.1 dX10_areParts_323 (by decide) ?_
        exact io_ret_z B Z hr hlk (Or.inl rfl) hw dX10_areParts_324
      · have hw := hw.2 k76
        refine lv_iload B.1 B.2.1 dX10_areParts_308 (lv_at hl 4 rfl) ?_
        refine lv_iconst (v := 0) B.1 B.2.1 dX10_areParts_310 (by decide) ?_
        refine lv_bipush (v := 127) B.1 B.2.1 dX10_areParts_311 (by decide) ?_
        refine io_call_i Z (io_runS [.int p4, .int 0, .int 127] [] B Z (io_c_X10_in l D ca ad A _ p4 0 127 _ hw) io_k_10_127 (io_hR (by decide) (by decide)) rfl hl.1 (Nat.le_of_ble_eq_true rfl) dX10_areParts_313 ⟨Nat.le_refl _, Nat.le_refl _⟩) (fun r77 s78 H locs hw Z => ?_)
        obtain ⟨b79, hw⟩ := hw
        refine lv_if_eq (tgt := 323) B.1 B.2.1 dX10_areParts_316 (by decide) (fun k80 => ?_) (fun k80 => ?_)
        · have hw := hw.1 k80
          refine lv_iconst (v := 0) B.1 B.2.1 dX10_areParts_323 (by decide) ?_
          exact io_ret_z B Z hr hlk (Or.inl rfl) hw dX10_areParts_324
        · have hw := hw.2 k80
          refine lv_iconst (v := 1) B.1 B.2.1 dX10_areParts_319 (by decide) ?_
          refine lv_goto (tgt := 324) B.1 B.2.1 dX10_areParts_320 (by decide) ?_
          exact io_ret_z B Z hr hlk (Or.inr rfl) hw dX10_areParts_324
  have hw := hw.2 k68
  refine io_tswE (tgt := 325) (fun z => (([0, 18, 1, 2, 3, 4, 6, 7, 9, 11, 12, 14, 17, 25, 13, 15, 16, 20, 28, 24, 26] : List Int32).contains z) = true) B dX10_areParts_1 (by decide) (by decide) (by decide) (by decide +kernel) (io_nc (List.forall_mem_cons.mpr ⟨fun q => k2 (Or.inl q), (List.forall_mem_cons.mpr ⟨fun q => k2 (Or.inr (q)), (List.forall_mem_cons.mpr ⟨fun q => k3 (q), (List.forall_mem_cons.mpr ⟨fun q => k7 (q), (List.forall_mem_cons.mpr ⟨fun q => k16 (q), (List.forall_mem_cons.mpr ⟨fun q => k25 (Or.inl q), (List.forall_mem_cons.mpr ⟨fun q => k25 (Or.inr (Or.inl q)), (List.forall_mem_cons.mpr ⟨fun q => k25 (Or.inr (Or.inr (Or.inl q))), (List.forall_mem_cons.mpr ⟨fun q => k25 (Or.inr (Or.inr (Or.inr (Or.inl q)))), (List.forall_mem_cons.mpr ⟨fun q => k25 (Or.inr (Or.inr (Or.inr (Or.inr (Or.inl q))))), (List.forall_mem_cons.mpr ⟨fun q => k25 (Or.inr (Or.inr (Or.inr (Or.inr (Or.inr (Or.inl q)))))), (List.forall_mem_cons.mpr ⟨fun q => k25 (Or.inr (Or.inr (Or.inr (Or.inr (Or.inr (Or.inr (Or.inl q))))))), (List.forall_mem_cons.mpr ⟨fun q => k25 (Or.inr (Or.inr (Or.inr (Or.inr (Or.inr (Or.inr (Or.inr (Or.inl q)))))))), (List.forall_mem_cons.mpr ⟨fun q => k25 (Or.inr (Or.inr (Or.inr (Or.inr (Or.inr (Or.inr (Or.inr (Or.inr (q))))))))), (List.forall_mem_cons.mpr ⟨fun q => k29 (q), (List.forall_mem_cons.mpr ⟨fun q => k38 (q), (List.forall_mem_cons.mpr ⟨fun q => k42 (q), (List.forall_mem_cons.mpr ⟨fun q => k51 (Or.inl q), (List.forall_mem_cons.mpr ⟨fun q => k51 (Or.inr (q)), (List.forall_mem_cons.mpr ⟨fun q => k64 (q), (List.forall_mem_cons.mpr ⟨fun q => k68 (q), (fun _ h => absurd h List.not_mem_nil)⟩)⟩)⟩)⟩)⟩)⟩)⟩)⟩)⟩)⟩)⟩)⟩)⟩)⟩)⟩)⟩)⟩)⟩)⟩)⟩)⟩)) ?_
  refine lv_aload_n B.1 B.2.1 dX10_areParts_325 rfl (lv_at hl 0 rfl) ?_
  refine lv_iload_n B.1 B.2.1 dX10_areParts_326 rfl (lv_at hl 2 rfl) ?_
  refine io_call_i Z (io_runV (ci := 10) (k := 111) [.int p2] [] B Z (io_c_X10_isNode l D ca ad A _ p2 _ hw) io_k_10_144 (io_hR (by decide) (by decide)) rfl (by decide) (io_e_111 _) rfl hl.1 (Nat.le_of_ble_eq_true rfl) dX10_areParts_327 ⟨Nat.le_refl _, Nat.le_refl _⟩) (fun r81 s82 H locs hw Z => ?_)
  obtain ⟨b83, hw⟩ := hw
  refine lv_if_eq (tgt := 345) B.1 B.2.1 dX10_areParts_330 (by decide) (fun k84 => ?_) (fun k84 => ?_)
  · have hw := hw.1 k84
    refine lv_iconst (v := 0) B.1 B.2.1 dX10_areParts_345 (by decide) ?_
    exact io_ret_z B Z hr hlk (Or.inl rfl) hw dX10_areParts_346
  · have hw := hw.2 k84
    refine lv_aload_n B.1 B.2.1 dX10_areParts_333 rfl (lv_at hl 0 rfl) ?_
    refine lv_iload_n B.1 B.2.1 dX10_areParts_334 rfl (lv_at hl 3 rfl) ?_
    refine io_call_i Z (io_runV (ci := 10) (k := 111) [.int p3] [] B Z (io_c_X10_isNode l D ca ad A _ p3 _ hw) io_k_10_144 (io_hR (by decide) (by decide)) rfl (by decide) (io_e_111 _) rfl hl.1 (Nat.le_of_ble_eq_true rfl) dX10_areParts_335 ⟨Nat.le_refl _, Nat.le_refl _⟩) (fun r85 s86 H locs hw Z => ?_)
    obtain ⟨b87, hw⟩ := hw
    refine lv_if_eq (tgt := 345) B.1 B.2.1 dX10_areParts_338 (by decide) (fun k88 => ?_) (fun k88 => ?_)
    · have hw := hw.1 k88
      refine lv_iconst (v := 0) B.1 B.2.1 dX10_areParts_345 (by decide) ?_
      exact io_ret_z B Z hr hlk (Or.inl rfl) hw dX10_areParts_346
    · have hw := hw.2 k88
      refine lv_iconst (v := 1) B.1 B.2.1 dX10_areParts_341 (by decide) ?_
      refine lv_goto (tgt := 346) B.1 B.2.1 dX10_areParts_342 (by decide) ?_
      exact io_ret_z B Z hr hlk (Or.inr rfl) hw dX10_areParts_346
def wp_X10_node (σ : io_M) (p1 : Int32) (p2 : Int32) (p3 : Int32) (p4 : Int32) (post : Int32 → io_M → Prop) : Prop := (wp_X10_in σ p1 0 28 (fun r2 s3 => ((r2 = 0 → post (-2) s3) ∧ (¬ (r2 = 0) → (wp_X10_areParts s3 p1 p2 p3 p4 (fun r6 s7 => ((r6 = 0 → post (-2) s7) ∧ (¬ (r6 = 0) → (((s7 111 9) = 60 → post (-3) s7) ∧ (¬ ((s7 111 9) = 60) → (vp_in (s7 111 9) 60 ∧ ∀ s11, s11 = io_up s7 118 ((s7 111 9)).toNatClampNeg (p1) → (vp_in (s11 111 9) 60 ∧ ∀ s13, s13 = io_up s11 119 ((s11 111 9)).toNatClampNeg (p2) → (vp_in (s13 111 9) 60 ∧ ∀ s15, s15 = io_up s13 120 ((s13 111 9)).toNatClampNeg (p3) → (vp_in (s15 111 9) 60 ∧ ∀ s17, s17 = io_up s15 121 ((s15 111 9)).toNatClampNeg (p4) → (∀ s19, s19 = io_up s17 111 9 ((s17 111 9) + 1) → post ((s19 111 9) - 1) s19)))))))))))))))
set_option maxHeartbeats 4000000 in
set_option maxRecDepth 100000 in
theorem io_c_X10_node (l : Launch) (D : va_G) (ca : Nat → ClassId) (ad : Nat → Nat) (A : Nat → Prop) (σ : io_M) (p1 : Int32) (p2 : Int32) (p3 : Int32) (p4 : Int32) (post : Int32 → io_M → Prop) (hw : wp_X10_node σ p1 p2 p3 p4 post) : Met l yX10_node (.code yX10_node cX10_node 5 (some .int) :: io_tb) (io_rm 3) (va_Pc [.ref (ad 111), .int p1, .int p2, .int p3, .int p4] (io_W D ca ad A σ)) (va_Qi post (io_W D ca ad A) A) 0 0 A := by
  refine Met.ofW (cc := cX10_node) (maxL := 5) (ret := (some .int)) (by decide) rfl ?_
  intro p e s m args below meth c s₁ Bd hml hv
  obtain ⟨rfl, hW0⟩ := hv
  have Z := io_Z.start hW0
  have B : CallFix p m c cX10_node 5 s _ io_tb RX10 := ⟨Bd.exec, Bd.bytes, hml, findClass_of_methodNamed Bd.named, fun w hw => atoms_spec (ws := (.code yX10_node cX10_node 5 (some .int) :: io_tb)) Bd.pre w (List.mem_cons_of_mem _ hw)⟩
  have hr := Bd.returns
  have hlk := Bd.notSynchronized
  have hl := lv_entry ([.ref (ad 111), .int p1, .int p2, .int p3, .int p4]) (n := 5) (Nat.le_of_ble_eq_true rfl)
  rw [lg_entry_eq]
  generalize (lg_sl ([.ref (ad 111), .int p1, .int p2, .int p3, .int p4]) ++ List.replicate (5 - (lg_sl ([.ref (ad 111), .int p1, .int p2, .int p3, .int p4])).length) Slot.unset).toArray = ls at hl ⊢
  have hl : lv_has ls 5 [(0, .ref (ad 111)), (1, .int p1), (2, .int p2), (3, .int p3), (4, .int p4)] := hl
  show W p l e (io_rm 3) s m _ below meth c s.heap [] 0 0 _ (F0 m 0 ls [])
  unfold wp_X10_node at hw
  refine lv_iload_n B.1 B.2.1 dX10_node_0 rfl (lv_at hl 1 rfl) ?_
  refine lv_iconst (v := 0) B.1 B.2.1 dX10_node_1 (by decide) ?_
  refine lv_bipush (v := 28) B.1 B.2.1 dX10_node_2 (by decide) ?_
  refine io_call_i Z (io_runS [.int p1, .int 0, .int 28] [] B Z (io_c_X10_in l D ca ad A _ p1 0 28 _ hw) io_k_10_127 (io_hR (by decide) (by decide)) rfl hl.1 (Nat.le_of_ble_eq_true rfl) dX10_node_4 ⟨Nat.le_refl _, Nat.le_refl _⟩) (fun r2 s3 H locs hw Z => ?_)
  obtain ⟨b4, hw⟩ := hw
  refine lv_if_eq (tgt := 22) B.1 B.2.1 dX10_node_7 (by decide) (fun k5 => ?_) (fun k5 => ?_)
  · have hw := hw.1 k5
    refine lv_bipush (v := (-2)) B.1 B.2.1 dX10_node_22 (by decide) ?_
    exact io_ret_i B Z hr hlk hw dX10_node_24
  · have hw := hw.2 k5
    refine lv_aload_n B.1 B.2.1 dX10_node_10 rfl (lv_at hl 0 rfl) ?_
    refine lv_iload_n B.1 B.2.1 dX10_node_11 rfl (lv_at hl 1 rfl) ?_
    refine lv_iload_n B.1 B.2.1 dX10_node_12 rfl (lv_at hl 2 rfl) ?_
    refine lv_iload_n B.1 B.2.1 dX10_node_13 rfl (lv_at hl 3 rfl) ?_
    refine lv_iload B.1 B.2.1 dX10_node_14 (lv_at hl 4 rfl) ?_
    refine io_call_i Z (io_runV (ci := 10) (k := 111) [.int p1, .int p2, .int p3, .int p4] [] B Z (io_c_X10_areParts l D ca ad A _ p1 p2 p3 p4 _ hw) io_k_10_148 (io_hR (by decide) (by decide)) rfl (by decide) (io_e_111 _) rfl hl.1 (Nat.le_of_ble_eq_true rfl) dX10_node_16 ⟨Nat.le_refl _, Nat.le_refl _⟩) (fun r6 s7 H locs hw Z => ?_)
    obtain ⟨b8, hw⟩ := hw
    refine lv_if_ne (tgt := 25) B.1 B.2.1 dX10_node_19 (by decide) (fun k9 => ?_) (fun k9 => ?_)
    · have hw := hw.2 k9
      refine lv_aload_n B.1 B.2.1 dX10_node_25 rfl (lv_at hl 0 rfl) ?_
      refine io_g_10_9 B Z dX10_node_26 ?_
      refine lv_bipush (v := 60) B.1 B.2.1 dX10_node_29 (by decide) ?_
      refine lv_icmp_ne (tgt := 37) B.1 B.2.1 dX10_node_31 (by decide) (fun k10 => ?_) (fun k10 => ?_)
      · have hw := hw.2 k10
        refine lv_aload_n B.1 B.2.1 dX10_node_37 rfl (lv_at hl 0 rfl) ?_
        refine io_g_10_10 B Z dX10_node_38 ?_
        refine lv_aload_n B.1 B.2.1 dX10_node_41 rfl (lv_at hl 0 rfl) ?_
        refine io_g_10_9 B Z dX10_node_42 ?_
        refine lv_iload_n B.1 B.2.1 dX10_node_45 rfl (lv_at hl 1 rfl) ?_
        refine io_iast B Z 118 (by decide) io_e_118 hw.1 dX10_node_46 (fun s11 H locs e12 Z => ?_)
        have hw := hw.2 s11 e12
        refine lv_aload_n B.1 B.2.1 dX10_node_47 rfl (lv_at hl 0 rfl) ?_
        refine io_g_10_11 B Z dX10_node_48 ?_
        refine lv_aload_n B.1 B.2.1 dX10_node_51 rfl (lv_at hl 0 rfl) ?_
        refine io_g_10_9 B Z dX10_node_52 ?_
        refine lv_iload_n B.1 B.2.1 dX10_node_55 rfl (lv_at hl 2 rfl) ?_
        refine io_iast B Z 119 (by decide) io_e_119 hw.1 dX10_node_56 (fun s13 H locs e14 Z => ?_)
        have hw := hw.2 s13 e14
        refine lv_aload_n B.1 B.2.1 dX10_node_57 rfl (lv_at hl 0 rfl) ?_
        refine io_g_10_12 B Z dX10_node_58 ?_
        refine lv_aload_n B.1 B.2.1 dX10_node_61 rfl (lv_at hl 0 rfl) ?_
        refine io_g_10_9 B Z dX10_node_62 ?_
        refine lv_iload_n B.1 B.2.1 dX10_node_65 rfl (lv_at hl 3 rfl) ?_
        refine io_iast B Z 120 (by decide) io_e_120 hw.1 dX10_node_66 (fun s15 H locs e16 Z => ?_)
        have hw := hw.2 s15 e16
        refine lv_aload_n B.1 B.2.1 dX10_node_67 rfl (lv_at hl 0 rfl) ?_
        refine io_g_10_13 B Z dX10_node_68 ?_
        refine lv_aload_n B.1 B.2.1 dX10_node_71 rfl (lv_at hl 0 rfl) ?_
        refine io_g_10_9 B Z dX10_node_72 ?_
        refine lv_iload B.1 B.2.1 dX10_node_75 (lv_at hl 4 rfl) ?_
        refine io_iast B Z 121 (by decide) io_e_121 hw.1 dX10_node_77 (fun s17 H locs e18 Z => ?_)
        have hw := hw.2 s17 e18
        refine lv_aload_n B.1 B.2.1 dX10_node_78 rfl (lv_at hl 0 rfl) ?_
        refine lv_dup B.1 B.2.1 dX10_node_79 rfl ?_
        refine io_g_10_9 B Z dX10_node_80 ?_
        refine lv_iconst (v := 1) B.1 B.2.1 dX10_node_83 (by decide) ?_
        refine lv_iadd B.1 B.2.1 dX10_node_84 ?_
        refine io_p_10_9 B Z dX10_node_85 (fun s19 H locs e20 Z => ?_)
        have hw := hw s19 e20
        refine lv_aload_n B.1 B.2.1 dX10_node_88 rfl (lv_at hl 0 rfl) ?_
        refine io_g_10_9 B Z dX10_node_89 ?_
        refine lv_iconst (v := 1) B.1 B.2.1 dX10_node_92 (by decide) ?_
        refine lv_isub B.1 B.2.1 dX10_node_93 ?_
        exact io_ret_i B Z hr hlk hw dX10_node_94
      · have hw := hw.1 k10
        refine lv_bipush (v := (-3)) B.1 B.2.1 dX10_node_34 (by decide) ?_
        exact io_ret_i B Z hr hlk hw dX10_node_36
    · have hw := hw.1 k9
      refine lv_bipush (v := (-2)) B.1 B.2.1 dX10_node_22 (by decide) ?_
      exact io_ret_i B Z hr hlk hw dX10_node_24
def wp_X10_clear (σ : io_M) (post : Int32 → io_M → Prop) : Prop := (∀ s2, s2 = io_up σ 111 9 0 → (∀ s4, s4 = io_up s2 111 4 0 → (∀ s6, s6 = io_up s4 111 5 0 → (∀ s8, s8 = io_up s6 111 7 0 → post (σ 111 9) s8))))
set_option maxHeartbeats 4000000 in
set_option maxRecDepth 100000 in
theorem io_c_X10_clear (l : Launch) (D : va_G) (ca : Nat → ClassId) (ad : Nat → Nat) (A : Nat → Prop) (σ : io_M) (post : Int32 → io_M → Prop) (hw : wp_X10_clear σ post) : Met l yX10_clear (.code yX10_clear cX10_clear 2 (some .int) :: io_tb) (io_rm 0) (va_Pc [.ref (ad 111)] (io_W D ca ad A σ)) (va_Qi post (io_W D ca ad A) A) 0 0 A := by
  refine Met.ofW (cc := cX10_clear) (maxL := 2) (ret := (some .int)) (by decide) rfl ?_
  intro p e s m args below meth c s₁ Bd hml hv
  obtain ⟨rfl, hW0⟩ := hv
  have Z := io_Z.start hW0
  have B : CallFix p m c cX10_clear 2 s _ io_tb RX10 := ⟨Bd.exec, Bd.bytes, hml, findClass_of_methodNamed Bd.named, fun w hw => atoms_spec (ws := (.code yX10_clear cX10_clear 2 (some .int) :: io_tb)) Bd.pre w (List.mem_cons_of_mem _ hw)⟩
  have hr := Bd.returns
  have hlk := Bd.notSynchronized
  have hl := lv_entry ([.ref (ad 111)]) (n := 2) (Nat.le_of_ble_eq_true rfl)
  rw [lg_entry_eq]
  generalize (lg_sl ([.ref (ad 111)]) ++ List.replicate (2 - (lg_sl ([.ref (ad 111)])).length) Slot.unset).toArray = ls at hl ⊢
  have hl : lv_has ls 2 [(0, .ref (ad 111))] := hl
  show W p l e (io_rm 0) s m _ below meth c s.heap [] 0 0 _ (F0 m 0 ls [])
  unfold wp_X10_clear at hw
  refine lv_aload_n B.1 B.2.1 dX10_clear_0 rfl (lv_at hl 0 rfl) ?_
  refine io_g_10_9 B Z dX10_clear_1 ?_
  refine lv_istore_n (lv' := [(1, .int (σ 111 9)), (0, .ref (ad 111))]) B.1 B.2.1 dX10_clear_4 rfl hl (by decide) rfl (fun ls hl => ?_)
  refine lv_aload_n B.1 B.2.1 dX10_clear_5 rfl (lv_at hl 1 rfl) ?_
  refine lv_iconst (v := 0) B.1 B.2.1 dX10_clear_6 (by decide) ?_
  refine io_p_10_9 B Z dX10_clear_7 (fun s2 H locs e3 Z => ?_)
  have hw := hw s2 e3
  refine lv_aload_n B.1 B.2.1 dX10_clear_10 rfl (lv_at hl 1 rfl) ?_
  refine lv_iconst (v := 0) B.1 B.2.1 dX10_clear_11 (by decide) ?_
  refine io_p_10_4 B Z dX10_clear_12 (fun s4 H locs e5 Z => ?_)
  have hw := hw s4 e5
  refine lv_aload_n B.1 B.2.1 dX10_clear_15 rfl (lv_at hl 1 rfl) ?_
  refine lv_iconst (v := 0) B.1 B.2.1 dX10_clear_16 (by decide) ?_
  refine io_p_10_5 B Z dX10_clear_17 (fun s6 H locs e7 Z => ?_)
  have hw := hw s6 e7
  refine lv_aload_n B.1 B.2.1 dX10_clear_20 rfl (lv_at hl 1 rfl) ?_
  refine lv_iconst (v := 0) B.1 B.2.1 dX10_clear_21 (by decide) ?_
  refine io_p_10_7 B Z dX10_clear_22 (fun s8 H locs e9 Z => ?_)
  have hw := hw s8 e9
  refine lv_iload_n B.1 B.2.1 dX10_clear_25 rfl (lv_at hl 0 rfl) ?_
  exact io_ret_i B Z hr hlk hw dX10_clear_26
def wl_X10_isHeld_2 : Nat → io_M → Int32 → Int32 → (Int32 → io_M → Prop) → Prop
  | 0, _, _, _, _ => False
  | n + 1, σ, x1, x2, post => (((σ 111 16) ≤ x2 → post 0 σ) ∧ (¬ ((σ 111 16) ≤ x2) → (vp_in x2 20 ∧ (((σ 124 (x2).toNatClampNeg) = x1 → (vp_in x2 20 ∧ (((σ 127 (x2).toNatClampNeg) = 2 → wl_X10_isHeld_2 n σ x1 (x2 + 1) post) ∧ (¬ ((σ 127 (x2).toNatClampNeg) = 2) → post 1 σ)))) ∧ (¬ ((σ 124 (x2).toNatClampNeg) = x1) → wl_X10_isHeld_2 n σ x1 (x2 + 1) post)))))
def wp_X10_isHeld (σ : io_M) (p1 : Int32) (post : Int32 → io_M → Prop) : Prop := (∃ n, wl_X10_isHeld_2 n σ p1 0 post)
set_option maxHeartbeats 4000000 in
set_option maxRecDepth 100000 in
theorem io_c_X10_isHeld (l : Launch) (D : va_G) (ca : Nat → ClassId) (ad : Nat → Nat) (A : Nat → Prop) (σ : io_M) (p1 : Int32) (post : Int32 → io_M → Prop) (hw : wp_X10_isHeld σ p1 post) : Met l yX10_isHeld (.code yX10_isHeld cX10_isHeld 3 (some .boolean) :: io_tb) (io_rm 0) (va_Pc [.ref (ad 111), .int p1] (io_W D ca ad A σ)) (va_Qi (fun r u => io_bl r ∧ post r u) (io_W D ca ad A) A) 0 0 A := by
  refine Met.ofW (cc := cX10_isHeld) (maxL := 3) (ret := (some .boolean)) (by decide) rfl ?_
  intro p e s m args below meth c s₁ Bd hml hv
  obtain ⟨rfl, hW0⟩ := hv
  have Z := io_Z.start hW0
  have B : CallFix p m c cX10_isHeld 3 s _ io_tb RX10 := ⟨Bd.exec, Bd.bytes, hml, findClass_of_methodNamed Bd.named, fun w hw => atoms_spec (ws := (.code yX10_isHeld cX10_isHeld 3 (some .boolean) :: io_tb)) Bd.pre w (List.mem_cons_of_mem _ hw)⟩
  have hr := Bd.returns
  have hlk := Bd.notSynchronized
  have hl := lv_entry ([.ref (ad 111), .int p1]) (n := 3) (Nat.le_of_ble_eq_true rfl)
  rw [lg_entry_eq]
  generalize (lg_sl ([.ref (ad 111), .int p1]) ++ List.replicate (3 - (lg_sl ([.ref (ad 111), .int p1])).length) Slot.unset).toArray = ls at hl ⊢
  have hl : lv_has ls 3 [(0, .ref (ad 111)), (1, .int p1)] := hl
  show W p l e (io_rm 0) s m _ below meth c s.heap [] 0 0 _ (F0 m 0 ls [])
  have LP2 : ∀ (n : Nat) (σ : io_M) (x1 : Int32) (x2 : Int32), wl_X10_isHeld_2 n σ x1 x2 post → ∀ (H : Heap) (locs : List Loc), io_Z D ca ad A s H locs σ → ∀ ls : Array Slot, lv_has ls 3 [(0, .ref (ad 111)), (1, .int x1), (2, .int x2)] → W p l e (io_rm 0) s m ([.ref (ad 111), .int p1] : List Value).toArray below meth c H locs 0 0 (MQ below (va_Qi (fun r u => io_bl r ∧ post r u) (io_W D ca ad A) A) ([.ref (ad 111), .int p1] : List Value).toArray s 0 0 A) (F0 m 2 ls []) := by
    intro n
    induction n with
    | zero =>
      intro σ x1 x2 hw
      exact hw.elim
    | succ n IH2 =>
      intro σ x1 x2 hw H locs Z ls hl
      unfold wl_X10_isHeld_2 at hw
      refine lv_iload_n B.1 B.2.1 dX10_isHeld_2 rfl (lv_at hl 2 rfl) ?_
      refine lv_aload_n B.1 B.2.1 dX10_isHeld_3 rfl (lv_at hl 0 rfl) ?_
      refine io_g_10_16 B Z dX10_isHeld_4 ?_
      refine lv_icmp_ge (tgt := 38) B.1 B.2.1 dX10_isHeld_7 (by decide) (fun k101 => ?_) (fun k101 => ?_)
      · have hw := hw.1 k101
        refine lv_iconst (v := 0) B.1 B.2.1 dX10_isHeld_38 (by decide) ?_
        exact io_ret_z B Z hr hlk (Or.inl rfl) hw dX10_isHeld_39
      · have hw := hw.2 k101
        refine lv_aload_n B.1 B.2.1 dX10_isHeld_10 rfl (lv_at hl 0 rfl) ?_
        refine io_g_10_17 B Z dX10_isHeld_11 ?_
        refine lv_iload_n B.1 B.2.1 dX10_isHeld_14 rfl (lv_at hl 2 rfl) ?_
        refine io_iald B Z 124 (by decide) io_e_124 hw.1 dX10_isHeld_15 ?_
        have hw := hw.2
        refine lv_iload_n B.1 B.2.1 dX10_isHeld_16 rfl (lv_at hl 1 rfl) ?_
        refine lv_icmp_ne (tgt := 32) B.1 B.2.1 dX10_isHeld_17 (by decide) (fun k102 => ?_) (fun k102 => ?_)
        · have hw := hw.2 k102
          refine lv_iinc (v := (x2 + 1)) (lv' := [(2, .int (x2 + 1)), (0, .ref (ad 111)), (1, .int x1)]) B.1 B.2.1 dX10_isHeld_32 hl (k := 2) rfl rfl (by decide) rfl (fun ls hl => ?_)
          refine lv_goto (tgt := 2) B.1 B.2.1 dX10_isHeld_35 (by decide) ?_
          exact IH2 _ x1 (x2 + 1) hw _ _ Z _ (lv_sub (l' := [(0, .ref (ad 111)), (1, .int x1), (2, .int (x2 + 1))]) hl [1, 2, 0] rfl)
        · have hw := hw.1 k102
          refine lv_aload_n B.1 B.2.1 dX10_isHeld_20 rfl (lv_at hl 0 rfl) ?_
          refine io_g_10_20 B Z dX10_isHeld_21 ?_
          refine lv_iload_n B.1 B.2.1 dX10_isHeld_24 rfl (lv_at hl 2 rfl) ?_
          refine io_iald B Z 127 (by decide) io_e_127 hw.1 dX10_isHeld_25 ?_
          have hw := hw.2
          refine lv_iconst (v := 2) B.1 B.2.1 dX10_isHeld_26 (by decide) ?_
          refine lv_icmp_eq (tgt := 32) B.1 B.2.1 dX10_isHeld_27 (by decide) (fun k103 => ?_) (fun k103 => ?_)
          · have hw := hw.1 k103
            refine lv_iinc (v := (x2 + 1)) (lv' := [(2, .int (x2 + 1)), (0, .ref (ad 111)), (1, .int x1)]) B.1 B.2.1 dX10_isHeld_32 hl (k := 2) rfl rfl (by decide) rfl (fun ls hl => ?_)
            refine lv_goto (tgt := 2) B.1 B.2.1 dX10_isHeld_35 (by decide) ?_
            exact IH2 _ x1 (x2 + 1) hw _ _ Z _ (lv_sub (l' := [(0, .ref (ad 111)), (1, .int x1), (2, .int (x2 + 1))]) hl [1, 2, 0] rfl)
          · have hw := hw.2 k103
            refine lv_iconst (v := 1) B.1 B.2.1 dX10_isHeld_30 (by decide) ?_
            exact io_ret_z B Z hr hlk (Or.inr rfl) hw dX10_isHeld_31
  unfold wp_X10_isHeld at hw
  refine lv_iconst (v := 0) B.1 B.2.1 dX10_isHeld_0 (by decide) ?_
  refine lv_istore_n (lv' := [(2, .int 0), (0, .ref (ad 111)), (1, .int p1)]) B.1 B.2.1 dX10_isHeld_1 rfl hl (by decide) rfl (fun ls hl => ?_)
  obtain ⟨n, hw⟩ := hw
  exact LP2 n _ p1 0 hw _ _ Z _ (lv_sub (l' := [(0, .ref (ad 111)), (1, .int p1), (2, .int 0)]) hl [1, 2, 0] rfl)
def wl_X10_isHeldToWrite_2 : Nat → io_M → Int32 → Int32 → (Int32 → io_M → Prop) → Prop
  | 0, _, _, _, _ => False
  | n + 1, σ, x1, x2, post => (((σ 111 16) ≤ x2 → post 0 σ) ∧ (¬ ((σ 111 16) ≤ x2) → (vp_in x2 20 ∧ (((σ 124 (x2).toNatClampNeg) = x1 → (vp_in x2 20 ∧ (((σ 127 (x2).toNatClampNeg) = 2 → wl_X10_isHeldToWrite_2 n σ x1 (x2 + 1) post) ∧ (¬ ((σ 127 (x2).toNatClampNeg) = 2) → (vp_in x2 20 ∧ (((σ 125 (x2).toNatClampNeg) = 0 → wl_X10_isHeldToWrite_2 n σ x1 (x2 + 1) post) ∧ (¬ ((σ 125 (x2).toNatClampNeg) = 0) → post 1 σ))))))) ∧ (¬ ((σ 124 (x2).toNatClampNeg) = x1) → wl_X10_isHeldToWrite_2 n σ x1 (x2 + 1) post)))))
def wp_X10_isHeldToWrite (σ : io_M) (p1 : Int32) (post : Int32 → io_M → Prop) : Prop := (∃ n, wl_X10_isHeldToWrite_2 n σ p1 0 post)
set_option maxHeartbeats 4000000 in
set_option maxRecDepth 100000 in
theorem io_c_X10_isHeldToWrite (l : Launch) (D : va_G) (ca : Nat → ClassId) (ad : Nat → Nat) (A : Nat → Prop) (σ : io_M) (p1 : Int32) (post : Int32 → io_M → Prop) (hw : wp_X10_isHeldToWrite σ p1 post) : Met l yX10_isHeldToWrite (.code yX10_isHeldToWrite cX10_isHeldToWrite 3 (some .boolean) :: io_tb) (io_rm 0) (va_Pc [.ref (ad 111), .int p1] (io_W D ca ad A σ)) (va_Qi (fun r u => io_bl r ∧ post r u) (io_W D ca ad A) A) 0 0 A := by
  refine Met.ofW (cc := cX10_isHeldToWrite) (maxL := 3) (ret := (some .boolean)) (by decide) rfl ?_
  intro p e s m args below meth c s₁ Bd hml hv
  obtain ⟨rfl, hW0⟩ := hv
  have Z := io_Z.start hW0
  have B : CallFix p m c cX10_isHeldToWrite 3 s _ io_tb RX10 := ⟨Bd.exec, Bd.bytes, hml, findClass_of_methodNamed Bd.named, fun w hw => atoms_spec (ws := (.code yX10_isHeldToWrite cX10_isHeldToWrite 3 (some .boolean) :: io_tb)) Bd.pre w (List.mem_cons_of_mem _ hw)⟩
  have hr := Bd.returns
  have hlk := Bd.notSynchronized
  have hl := lv_entry ([.ref (ad 111), .int p1]) (n := 3) (Nat.le_of_ble_eq_true rfl)
  rw [lg_entry_eq]
  generalize (lg_sl ([.ref (ad 111), .int p1]) ++ List.replicate (3 - (lg_sl ([.ref (ad 111), .int p1])).length) Slot.unset).toArray = ls at hl ⊢
  have hl : lv_has ls 3 [(0, .ref (ad 111)), (1, .int p1)] := hl
  show W p l e (io_rm 0) s m _ below meth c s.heap [] 0 0 _ (F0 m 0 ls [])
  have LP2 : ∀ (n : Nat) (σ : io_M) (x1 : Int32) (x2 : Int32), wl_X10_isHeldToWrite_2 n σ x1 x2 post → ∀ (H : Heap) (locs : List Loc), io_Z D ca ad A s H locs σ → ∀ ls : Array Slot, lv_has ls 3 [(0, .ref (ad 111)), (1, .int x1), (2, .int x2)] → W p l e (io_rm 0) s m ([.ref (ad 111), .int p1] : List Value).toArray below meth c H locs 0 0 (MQ below (va_Qi (fun r u => io_bl r ∧ post r u) (io_W D ca ad A) A) ([.ref (ad 111), .int p1] : List Value).toArray s 0 0 A) (F0 m 2 ls []) := by
    intro n
    induction n with
    | zero =>
      intro σ x1 x2 hw
      exact hw.elim
    | succ n IH2 =>
      intro σ x1 x2 hw H locs Z ls hl
      unfold wl_X10_isHeldToWrite_2 at hw
      refine lv_iload_n B.1 B.2.1 dX10_isHeldToWrite_2 rfl (lv_at hl 2 rfl) ?_
      refine lv_aload_n B.1 B.2.1 dX10_isHeldToWrite_3 rfl (lv_at hl 0 rfl) ?_
      refine io_g_10_16 B Z dX10_isHeldToWrite_4 ?_
      refine lv_icmp_ge (tgt := 47) B.1 B.2.1 dX10_isHeldToWrite_7 (by decide) (fun k101 => ?_) (fun k101 => ?_)
      · have hw := hw.1 k101
        refine lv_iconst (v := 0) B.1 B.2.1 dX10_isHeldToWrite_47 (by decide) ?_
        exact io_ret_z B Z hr hlk (Or.inl rfl) hw dX10_isHeldToWrite_48
      · have hw := hw.2 k101
        refine lv_aload_n B.1 B.2.1 dX10_isHeldToWrite_10 rfl (lv_at hl 0 rfl) ?_
        refine io_g_10_17 B Z dX10_isHeldToWrite_11 ?_
        refine lv_iload_n B.1 B.2.1 dX10_isHeldToWrite_14 rfl (lv_at hl 2 rfl) ?_
        refine io_iald B Z 124 (by decide) io_e_124 hw.1 dX10_isHeldToWrite_15 ?_
        have hw := hw.2
        refine lv_iload_n B.1 B.2.1 dX10_isHeldToWrite_16 rfl (lv_at hl 1 rfl) ?_
        refine lv_icmp_ne (tgt := 41) B.1 B.2.1 dX10_isHeldToWrite_17 (by decide) (fun k102 => ?_) (fun k102 => ?_)
        · have hw := hw.2 k102
          refine lv_iinc (v := (x2 + 1)) (lv' := [(2, .int (x2 + 1)), (0, .ref (ad 111)), (1, .int x1)]) B.1 B.2.1 dX10_isHeldToWrite_41 hl (k := 2) rfl rfl (by decide) rfl (fun ls hl => ?_)
          refine lv_goto (tgt := 2) B.1 B.2.1 dX10_isHeldToWrite_44 (by decide) ?_
          exact IH2 _ x1 (x2 + 1) hw _ _ Z _ (lv_sub (l' := [(0, .ref (ad 111)), (1, .int x1), (2, .int (x2 + 1))]) hl [1, 2, 0] rfl)
        · have hw := hw.1 k102
          refine lv_aload_n B.1 B.2.1 dX10_isHeldToWrite_20 rfl (lv_at hl 0 rfl) ?_
          refine io_g_10_20 B Z dX10_isHeldToWrite_21 ?_
          refine lv_iload_n B.1 B.2.1 dX10_isHeldToWrite_24 rfl (lv_at hl 2 rfl) ?_
          refine io_iald B Z 127 (by decide) io_e_127 hw.1 dX10_isHeldToWrite_25 ?_
          have hw := hw.2
          refine lv_iconst (v := 2) B.1 B.2.1 dX10_isHeldToWrite_26 (by decide) ?_
          refine lv_icmp_eq (tgt := 41) B.1 B.2.1 dX10_isHeldToWrite_27 (by decide) (fun k103 => ?_) (fun k103 => ?_)
          · have hw := hw.1 k103
            refine lv_iinc (v := (x2 + 1)) (lv' := [(2, .int (x2 + 1)), (0, .ref (ad 111)), (1, .int x1)]) B.1 B.2.1 dX10_isHeldToWrite_41 hl (k := 2) rfl rfl (by decide) rfl (fun ls hl => ?_)
            refine lv_goto (tgt := 2) B.1 B.2.1 dX10_isHeldToWrite_44 (by decide) ?_
            exact IH2 _ x1 (x2 + 1) hw _ _ Z _ (lv_sub (l' := [(0, .ref (ad 111)), (1, .int x1), (2, .int (x2 + 1))]) hl [1, 2, 0] rfl)
          · have hw := hw.2 k103
            refine lv_aload_n B.1 B.2.1 dX10_isHeldToWrite_30 rfl (lv_at hl 0 rfl) ?_
            refine io_g_10_18 B Z dX10_isHeldToWrite_31 ?_
            refine lv_iload_n B.1 B.2.1 dX10_isHeldToWrite_34 rfl (lv_at hl 2 rfl) ?_
            refine io_iald B Z 125 (by decide) io_e_125 hw.1 dX10_isHeldToWrite_35 ?_
            have hw := hw.2
            refine lv_if_eq (tgt := 41) B.1 B.2.1 dX10_isHeldToWrite_36 (by decide) (fun k104 => ?_) (fun k104 => ?_)
            · have hw := hw.1 k104
              refine lv_iinc (v := (x2 + 1)) (lv' := [(2, .int (x2 + 1)), (0, .ref (ad 111)), (1, .int x1)]) B.1 B.2.1 dX10_isHeldToWrite_41 hl (k := 2) rfl rfl (by decide) rfl (fun ls hl => ?_)
              refine lv_goto (tgt := 2) B.1 B.2.1 dX10_isHeldToWrite_44 (by decide) ?_
              exact IH2 _ x1 (x2 + 1) hw _ _ Z _ (lv_sub (l' := [(0, .ref (ad 111)), (1, .int x1), (2, .int (x2 + 1))]) hl [1, 2, 0] rfl)
            · have hw := hw.2 k104
              refine lv_iconst (v := 1) B.1 B.2.1 dX10_isHeldToWrite_39 (by decide) ?_
              exact io_ret_z B Z hr hlk (Or.inr rfl) hw dX10_isHeldToWrite_40
  unfold wp_X10_isHeldToWrite at hw
  refine lv_iconst (v := 0) B.1 B.2.1 dX10_isHeldToWrite_0 (by decide) ?_
  refine lv_istore_n (lv' := [(2, .int 0), (0, .ref (ad 111)), (1, .int p1)]) B.1 B.2.1 dX10_isHeldToWrite_1 rfl hl (by decide) rfl (fun ls hl => ?_)
  obtain ⟨n, hw⟩ := hw
  exact LP2 n _ p1 0 hw _ _ Z _ (lv_sub (l' := [(0, .ref (ad 111)), (1, .int p1), (2, .int 0)]) hl [1, 2, 0] rfl)
def wp_X10_note (σ : io_M) (p1 : Int32) (post : io_M → Prop) : Prop := ((300 ≤ (σ 111 33) → (∀ s3, s3 = io_up σ 111 33 ((σ 111 33) + 1) → post s3)) ∧ (¬ (300 ≤ (σ 111 33)) → (vp_in (σ 111 33) 300 ∧ ∀ s5, s5 = io_up σ 139 ((σ 111 33)).toNatClampNeg (p1) → (∀ s7, s7 = io_up s5 111 33 ((s5 111 33) + 1) → post s7))))
set_option maxHeartbeats 4000000 in
set_option maxRecDepth 100000 in
theorem io_c_X10_note (l : Launch) (D : va_G) (ca : Nat → ClassId) (ad : Nat → Nat) (A : Nat → Prop) (σ : io_M) (p1 : Int32) (post : io_M → Prop) (hw : wp_X10_note σ p1 post) : Met l yX10_note (.code yX10_note cX10_note 2 none :: io_tb) (io_rm 0) (va_Pc [.ref (ad 111), .int p1] (io_W D ca ad A σ)) (va_Qv post (io_W D ca ad A) A) 0 0 A := by
  refine Met.ofW (cc := cX10_note) (maxL := 2) (ret := none) (by decide) rfl ?_
  intro p e s m args below meth c s₁ Bd hml hv
  obtain ⟨rfl, hW0⟩ := hv
  have Z := io_Z.start hW0
  have B : CallFix p m c cX10_note 2 s _ io_tb RX10 := ⟨Bd.exec, Bd.bytes, hml, findClass_of_methodNamed Bd.named, fun w hw => atoms_spec (ws := (.code yX10_note cX10_note 2 none :: io_tb)) Bd.pre w (List.mem_cons_of_mem _ hw)⟩
  have hr := Bd.returns
  have hlk := Bd.notSynchronized
  have hl := lv_entry ([.ref (ad 111), .int p1]) (n := 2) (Nat.le_of_ble_eq_true rfl)
  rw [lg_entry_eq]
  generalize (lg_sl ([.ref (ad 111), .int p1]) ++ List.replicate (2 - (lg_sl ([.ref (ad 111), .int p1])).length) Slot.unset).toArray = ls at hl ⊢
  have hl : lv_has ls 2 [(0, .ref (ad 111)), (1, .int p1)] := hl
  show W p l e (io_rm 0) s m _ below meth c s.heap [] 0 0 _ (F0 m 0 ls [])
  unfold wp_X10_note at hw
  refine lv_aload_n B.1 B.2.1 dX10_note_0 rfl (lv_at hl 0 rfl) ?_
  refine io_g_10_33 B Z dX10_note_1 ?_
  refine lv_sipush (v := 300) B.1 B.2.1 dX10_note_4 (by decide) ?_
  refine lv_icmp_ge (tgt := 20) B.1 B.2.1 dX10_note_7 (by decide) (fun k2 => ?_) (fun k2 => ?_)
  · have hw := hw.1 k2
    refine lv_aload_n B.1 B.2.1 dX10_note_20 rfl (lv_at hl 0 rfl) ?_
    refine lv_dup B.1 B.2.1 dX10_note_21 rfl ?_
    refine io_g_10_33 B Z dX10_note_22 ?_
    refine lv_iconst (v := 1) B.1 B.2.1 dX10_note_25 (by decide) ?_
    refine lv_iadd B.1 B.2.1 dX10_note_26 ?_
    refine io_p_10_33 B Z dX10_note_27 (fun s3 H locs e4 Z => ?_)
    have hw := hw s3 e4
    exact io_ret_v B Z hr hlk hw dX10_note_30
  · have hw := hw.2 k2
    refine lv_aload_n B.1 B.2.1 dX10_note_10 rfl (lv_at hl 0 rfl) ?_
    refine io_g_10_34 B Z dX10_note_11 ?_
    refine lv_aload_n B.1 B.2.1 dX10_note_14 rfl (lv_at hl 0 rfl) ?_
    refine io_g_10_33 B Z dX10_note_15 ?_
    refine lv_iload_n B.1 B.2.1 dX10_note_18 rfl (lv_at hl 1 rfl) ?_
    refine io_iast B Z 139 (by decide) io_e_139 hw.1 dX10_note_19 (fun s5 H locs e6 Z => ?_)
    have hw := hw.2 s5 e6
    refine lv_aload_n B.1 B.2.1 dX10_note_20 rfl (lv_at hl 0 rfl) ?_
    refine lv_dup B.1 B.2.1 dX10_note_21 rfl ?_
    refine io_g_10_33 B Z dX10_note_22 ?_
    refine lv_iconst (v := 1) B.1 B.2.1 dX10_note_25 (by decide) ?_
    refine lv_iadd B.1 B.2.1 dX10_note_26 ?_
    refine io_p_10_33 B Z dX10_note_27 (fun s7 H locs e8 Z => ?_)
    have hw := hw s7 e8
    exact io_ret_v B Z hr hlk hw dX10_note_30
def wj_X10_flush_79 (C : io_M → Int32 → Int32 → Int32 → Int32 → (Int32 → io_M → Prop) → Prop) (σ : io_M) (x1 : Int32) (x2 : Int32) (x4 : Int32) (x5 : Int32) (y0 : Int32) (post : Int32 → io_M → Prop) : Prop := ((y0 = 0 → C σ x1 x2 y0 (x4 + 1) post) ∧ (¬ (y0 = 0) → (vp_in x1 20 ∧ (vp_in ((20 * x1) + x4) 400 ∧ (vp_in ((40 * x2) + (σ 126 (x1).toNatClampNeg)) 320 ∧ ∀ s102, s102 = io_up σ 114 (((40 * x2) + (σ 126 (x1).toNatClampNeg))).toNatClampNeg (((σ 131 (((20 * x1) + x4)).toNatClampNeg)).toInt8.toInt32) → (vp_in x1 20 ∧ (vp_in x1 20 ∧ ∀ s104, s104 = io_up s102 126 (x1).toNatClampNeg (((s102 126 (x1).toNatClampNeg) + 1)) → ((x5 = 0 → (vp_in x2 8 ∧ (vp_in x2 8 ∧ ∀ s107, s107 = io_up s104 113 (x2).toNatClampNeg ((s104 113 (x2).toNatClampNeg)) → (vp_in x1 20 ∧ (vp_in x1 20 ∧ ∀ s109, s109 = io_up s107 134 (x1).toNatClampNeg (((s107 134 (x1).toNatClampNeg) + 1)) → C s109 x1 x2 y0 (x4 + 1) post))))) ∧ (¬ (x5 = 0) → (vp_in x2 8 ∧ (vp_in x2 8 ∧ ∀ s111, s111 = io_up s104 113 (x2).toNatClampNeg (((s104 113 (x2).toNatClampNeg) + 1)) → (vp_in x1 20 ∧ (vp_in x1 20 ∧ ∀ s113, s113 = io_up s111 134 (x1).toNatClampNeg (((s111 134 (x1).toNatClampNeg) + 1)) → C s113 x1 x2 y0 (x4 + 1) post)))))))))))))
def wj_X10_flush_74 (C : io_M → Int32 → Int32 → Int32 → Int32 → (Int32 → io_M → Prop) → Prop) (σ : io_M) (x1 : Int32) (x2 : Int32) (x4 : Int32) (x5 : Int32) (post : Int32 → io_M → Prop) : Prop := wj_X10_flush_79 C σ x1 x2 x4 x5 1 post
def wj_X10_flush_78 (C : io_M → Int32 → Int32 → Int32 → Int32 → (Int32 → io_M → Prop) → Prop) (σ : io_M) (x1 : Int32) (x2 : Int32) (x4 : Int32) (x5 : Int32) (post : Int32 → io_M → Prop) : Prop := wj_X10_flush_79 C σ x1 x2 x4 x5 0 post
def wj_X10_flush_47 (C : io_M → Int32 → Int32 → Int32 → Int32 → (Int32 → io_M → Prop) → Prop) (σ : io_M) (x1 : Int32) (x2 : Int32) (x4 : Int32) (y0 : Int32) (post : Int32 → io_M → Prop) : Prop := ((y0 = 0 → wj_X10_flush_74 C σ x1 x2 x4 y0 post) ∧ (¬ (y0 = 0) → (vp_in x2 8 ∧ ((40 ≤ (σ 113 (x2).toNatClampNeg) → wj_X10_flush_78 C σ x1 x2 x4 y0 post) ∧ (¬ (40 ≤ (σ 113 (x2).toNatClampNeg)) → (wp_X10_allBytes σ (fun r403 s404 => ((120 ≤ r403 → wj_X10_flush_78 C s404 x1 x2 x4 y0 post) ∧ (¬ (120 ≤ r403) → wj_X10_flush_74 C s404 x1 x2 x4 y0 post)))))))))
def wl_X10_flush_12 : Nat → io_M → Int32 → Int32 → Int32 → Int32 → (Int32 → io_M → Prop) → Prop
  | 0, _, _, _, _, _, _ => False
  | n + 1, σ, x1, x2, x3, x4, post => (vp_in x1 20 ∧ (((σ 130 (x1).toNatClampNeg) ≤ x4 → (vp_in x1 20 ∧ ∀ s502, s502 = io_up σ 130 (x1).toNatClampNeg (0) → (io_bl x3 ∧ post x3 s502))) ∧ (¬ ((σ 130 (x1).toNatClampNeg) ≤ x4) → ((x3 = 0 → (vp_in x1 20 ∧ ∀ s505, s505 = io_up σ 130 (x1).toNatClampNeg (0) → (io_bl x3 ∧ post x3 s505))) ∧ (¬ (x3 = 0) → (vp_in x1 20 ∧ (vp_in x2 8 ∧ (((σ 126 (x1).toNatClampNeg) < (σ 113 (x2).toNatClampNeg) → wj_X10_flush_47 (wl_X10_flush_12 n) σ x1 x2 x4 0 post) ∧ (¬ ((σ 126 (x1).toNatClampNeg) < (σ 113 (x2).toNatClampNeg)) → wj_X10_flush_47 (wl_X10_flush_12 n) σ x1 x2 x4 1 post)))))))))
def wp_X10_flush (σ : io_M) (p1 : Int32) (post : Int32 → io_M → Prop) : Prop := (vp_in p1 20 ∧ (∃ n, wl_X10_flush_12 n σ p1 (σ 124 (p1).toNatClampNeg) 1 0 post))
set_option maxHeartbeats 4000000 in
set_option maxRecDepth 100000 in
theorem io_c_X10_flush (l : Launch) (D : va_G) (ca : Nat → ClassId) (ad : Nat → Nat) (A : Nat → Prop) (σ : io_M) (p1 : Int32) (post : Int32 → io_M → Prop) (hw : wp_X10_flush σ p1 post) : Met l yX10_flush (.code yX10_flush cX10_flush 6 (some .boolean) :: io_tb) (io_rm 1) (va_Pc [.ref (ad 111), .int p1] (io_W D ca ad A σ)) (va_Qi (fun r u => io_bl r ∧ post r u) (io_W D ca ad A) A) 0 0 A := by
  refine Met.ofW (cc := cX10_flush) (maxL := 6) (ret := (some .boolean)) (by decide) rfl ?_
  intro p e s m args below meth c s₁ Bd hml hv
  obtain ⟨rfl, hW0⟩ := hv
  have Z := io_Z.start hW0
  have B : CallFix p m c cX10_flush 6 s _ io_tb RX10 := ⟨Bd.exec, Bd.bytes, hml, findClass_of_methodNamed Bd.named, fun w hw => atoms_spec (ws := (.code yX10_flush cX10_flush 6 (some .boolean) :: io_tb)) Bd.pre w (List.mem_cons_of_mem _ hw)⟩
  have hr := Bd.returns
  have hlk := Bd.notSynchronized
  have hl := lv_entry ([.ref (ad 111), .int p1]) (n := 6) (Nat.le_of_ble_eq_true rfl)
  rw [lg_entry_eq]
  generalize (lg_sl ([.ref (ad 111), .int p1]) ++ List.replicate (6 - (lg_sl ([.ref (ad 111), .int p1])).length) Slot.unset).toArray = ls at hl ⊢
  have hl : lv_has ls 6 [(0, .ref (ad 111)), (1, .int p1)] := hl
  show W p l e (io_rm 1) s m _ below meth c s.heap [] 0 0 _ (F0 m 0 ls [])
  have LP12 : ∀ (n : Nat) (σ : io_M) (x1 : Int32) (x2 : Int32) (x3 : Int32) (x4 : Int32), wl_X10_flush_12 n σ x1 x2 x3 x4 post → ∀ (H : Heap) (locs : List Loc), io_Z D ca ad A s H locs σ → ∀ ls : Array Slot, lv_has ls 6 [(0, .ref (ad 111)), (1, .int x1), (2, .int x2), (3, .int x3), (4, .int x4)] → W p l e (io_rm 1) s m ([.ref (ad 111), .int p1] : List Value).toArray below meth c H locs 0 0 (MQ below (va_Qi (fun r u => io_bl r ∧ post r u) (io_W D ca ad A) A) ([.ref (ad 111), .int p1] : List Value).toArray s 0 0 A) (F0 m 12 ls []) := by
    intro n
    induction n with
    | zero =>
      intro σ x1 x2 x3 x4 hw
      exact hw.elim
    | succ n IH12 =>
      have JN79 : ∀ (σ : io_M) (x1 : Int32) (x2 : Int32) (x4 : Int32) (x5 : Int32) (y0 : Int32), wj_X10_flush_79 (wl_X10_flush_12 n) σ x1 x2 x4 x5 y0 post → ∀ (H : Heap) (locs : List Loc), io_Z D ca ad A s H locs σ → ∀ ls : Array Slot, lv_has ls 6 [(0, .ref (ad 111)), (1, .int x1), (2, .int x2), (4, .int x4), (5, .int x5)] → W p l e (io_rm 1) s m ([.ref (ad 111), .int p1] : List Value).toArray below meth c H locs 0 0 (MQ below (va_Qi (fun r u => io_bl r ∧ post r u) (io_W D ca ad A) A) ([.ref (ad 111), .int p1] : List Value).toArray s 0 0 A) (F0 m 79 ls [.int y0]) := by
        intro σ x1 x2 x4 x5 y0 hw H locs Z ls hl
        unfold wj_X10_flush_79 at hw
        refine lv_istore_n (lv' := [(3, .int y0), (0, .ref (ad 111)), (1, .int x1), (2, .int x2), (4, .int x4), (5, .int x5)]) B.1 B.2.1 dX10_flush_79 rfl hl (by decide) rfl (fun ls hl => ?_)
        refine lv_iload_n B.1 B.2.1 dX10_flush_80 rfl (lv_at hl 0 rfl) ?_
        refine lv_if_eq (tgt := 160) B.1 B.2.1 dX10_flush_81 (by decide) (fun k101 => ?_) (fun k101 => ?_)
        · have hw := hw.1 k101
          refine lv_iinc (v := (x4 + 1)) (lv' := [(4, .int (x4 + 1)), (3, .int y0), (0, .ref (ad 111)), (1, .int x1), (2, .int x2), (5, .int x5)]) B.1 B.2.1 dX10_flush_160 hl (k := 4) rfl rfl (by decide) rfl (fun ls hl => ?_)
          refine lv_goto (tgt := 12) B.1 B.2.1 dX10_flush_163 (by decide) ?_
          exact IH12 _ x1 x2 y0 (x4 + 1) hw _ _ Z _ (lv_sub (l' := [(0, .ref (ad 111)), (1, .int x1), (2, .int x2), (3, .int y0), (4, .int (x4 + 1))]) hl [2, 3, 4, 1, 0] rfl)
        · have hw := hw.2 k101
          refine lv_aload_n B.1 B.2.1 dX10_flush_84 rfl (lv_at hl 1 rfl) ?_
          refine io_g_10_2 B Z dX10_flush_85 ?_
          refine lv_bipush (v := 40) B.1 B.2.1 dX10_flush_88 (by decide) ?_
          refine lv_iload_n B.1 B.2.1 dX10_flush_90 rfl (lv_at hl 3 rfl) ?_
          refine lv_imul B.1 B.2.1 dX10_flush_91 ?_
          refine lv_aload_n B.1 B.2.1 dX10_flush_92 rfl (lv_at hl 1 rfl) ?_
          refine io_g_10_19 B Z dX10_flush_93 ?_
          refine lv_iload_n B.1 B.2.1 dX10_flush_96 rfl (lv_at hl 2 rfl) ?_
          refine io_iald B Z 126 (by decide) io_e_126 hw.1 dX10_flush_97 ?_
          have hw := hw.2
          refine lv_iadd B.1 B.2.1 dX10_flush_98 ?_
          refine lv_aload_n B.1 B.2.1 dX10_flush_99 rfl (lv_at hl 1 rfl) ?_
          refine io_g_10_24 B Z dX10_flush_100 ?_
          refine lv_bipush (v := 20) B.1 B.2.1 dX10_flush_103 (by decide) ?_
          refine lv_iload_n B.1 B.2.1 dX10_flush_105 rfl (lv_at hl 2 rfl) ?_
          refine lv_imul B.1 B.2.1 dX10_flush_106 ?_
          refine lv_iload B.1 B.2.1 dX10_flush_107 (lv_at hl 4 rfl) ?_
          refine lv_iadd B.1 B.2.1 dX10_flush_109 ?_
          refine io_bald B Z 131 (by decide) io_e_131 hw.1 dX10_flush_110 ?_
          have hw := hw.2
          refine io_bast B Z 114 (by decide) io_e_114 hw.1 dX10_flush_111 (fun s102 H locs e103 Z => ?_)
          have hw := hw.2 s102 e103
          refine lv_aload_n B.1 B.2.1 dX10_flush_112 rfl (lv_at hl 1 rfl) ?_
          refine io_g_10_19 B Z dX10_flush_113 ?_
          refine lv_iload_n B.1 B.2.1 dX10_flush_116 rfl (lv_at hl 2 rfl) ?_
          refine lv_dup2_11 B.1 B.2.1 dX10_flush_117 rfl rfl ?_
          refine io_iald B Z 126 (by decide) io_e_126 hw.1 dX10_flush_118 ?_
          have hw := hw.2
          refine lv_iconst (v := 1) B.1 B.2.1 dX10_flush_119 (by decide) ?_
          refine lv_iadd B.1 B.2.1 dX10_flush_120 ?_
          refine io_iast B Z 126 (by decide) io_e_126 hw.1 dX10_flush_121 (fun s104 H locs e105 Z => ?_)
          have hw := hw.2 s104 e105
          refine lv_aload_n B.1 B.2.1 dX10_flush_122 rfl (lv_at hl 1 rfl) ?_
          refine io_g_10_1 B Z dX10_flush_123 ?_
          refine lv_iload_n B.1 B.2.1 dX10_flush_126 rfl (lv_at hl 3 rfl) ?_
          refine lv_iload B.1 B.2.1 dX10_flush_127 (lv_at hl 5 rfl) ?_
          refine lv_if_eq (tgt := 143) B.1 B.2.1 dX10_flush_129 (by decide) (fun k106 => ?_) (fun k106 => ?_)
          · have hw := hw.1 k106
            refine lv_aload_n B.1 B.2.1 dX10_flush_143 rfl (lv_at hl 1 rfl) ?_
            refine io_g_10_1 B Z dX10_flush_144 ?_
            refine lv_iload_n B.1 B.2.1 dX10_flush_147 rfl (lv_at hl 3 rfl) ?_
            refine io_iald B Z 113 (by decide) io_e_113 hw.1 dX10_flush_148 ?_
            have hw := hw.2
            refine io_iast B Z 113 (by decide) io_e_113 hw.1 dX10_flush_149 (fun s107 H locs e108 Z => ?_)
            have hw := hw.2 s107 e108
            refine lv_aload_n B.1 B.2.1 dX10_flush_150 rfl (lv_at hl 1 rfl) ?_
            refine io_g_10_27 B Z dX10_flush_151 ?_
            refine lv_iload_n B.1 B.2.1 dX10_flush_154 rfl (lv_at hl 2 rfl) ?_
            refine lv_dup2_11 B.1 B.2.1 dX10_flush_155 rfl rfl ?_
            refine io_iald B Z 134 (by decide) io_e_134 hw.1 dX10_flush_156 ?_
            have hw := hw.2
            refine lv_iconst (v := 1) B.1 B.2.1 dX10_flush_157 (by decide) ?_
            refine lv_iadd B.1 B.2.1 dX10_flush_158 ?_
            refine io_iast B Z 134 (by decide) io_e_134 hw.1 dX10_flush_159 (fun s109 H locs e110 Z => ?_)
            have hw := hw.2 s109 e110
            refine lv_iinc (v := (x4 + 1)) (lv' := [(4, .int (x4 + 1)), (3, .int y0), (0, .ref (ad 111)), (1, .int x1), (2, .int x2), (5, .int x5)]) B.1 B.2.1 dX10_flush_160 hl (k := 4) rfl rfl (by decide) rfl (fun ls hl => ?_)
            refine lv_goto (tgt := 12) B.1 B.2.1 dX10_flush_163 (by decide) ?_
            exact IH12 _ x1 x2 y0 (x4 + 1) hw _ _ Z _ (lv_sub (l' := [(0, .ref (ad 111)), (1, .int x1), (2, .int x2), (3, .int y0), (4, .int (x4 + 1))]) hl [2, 3, 4, 1, 0] rfl)
          · have hw := hw.2 k106
            refine lv_aload_n B.1 B.2.1 dX10_flush_132 rfl (lv_at hl 1 rfl) ?_
            refine io_g_10_1 B Z dX10_flush_133 ?_
            refine lv_iload_n B.1 B.2.1 dX10_flush_136 rfl (lv_at hl 3 rfl) ?_
            refine io_iald B Z 113 (by decide) io_e_113 hw.1 dX10_flush_137 ?_
            have hw := hw.2
            refine lv_iconst (v := 1) B.1 B.2.1 dX10_flush_138 (by decide) ?_
            refine lv_iadd B.1 B.2.1 dX10_flush_139 ?_
            refine lv_goto (tgt := 149) B.1 B.2.1 dX10_flush_140 (by decide) ?_
            refine io_iast B Z 113 (by decide) io_e_113 hw.1 dX10_flush_149 (fun s111 H locs e112 Z => ?_)
            have hw := hw.2 s111 e112
            refine lv_aload_n B.1 B.2.1 dX10_flush_150 rfl (lv_at hl 1 rfl) ?_
            refine io_g_10_27 B Z dX10_flush_151 ?_
            refine lv_iload_n B.1 B.2.1 dX10_flush_154 rfl (lv_at hl 2 rfl) ?_
            refine lv_dup2_11 B.1 B.2.1 dX10_flush_155 rfl rfl ?_
            refine io_iald B Z 134 (by decide) io_e_134 hw.1 dX10_flush_156 ?_
            have hw := hw.2
            refine lv_iconst (v := 1) B.1 B.2.1 dX10_flush_157 (by decide) ?_
            refine lv_iadd B.1 B.2.1 dX10_flush_158 ?_
            refine io_iast B Z 134 (by decide) io_e_134 hw.1 dX10_flush_159 (fun s113 H locs e114 Z => ?_)
            have hw := hw.2 s113 e114
            refine lv_iinc (v := (x4 + 1)) (lv' := [(4, .int (x4 + 1)), (3, .int y0), (0, .ref (ad 111)), (1, .int x1), (2, .int x2), (5, .int x5)]) B.1 B.2.1 dX10_flush_160 hl (k := 4) rfl rfl (by decide) rfl (fun ls hl => ?_)
            refine lv_goto (tgt := 12) B.1 B.2.1 dX10_flush_163 (by decide) ?_
            exact IH12 _ x1 x2 y0 (x4 + 1) hw _ _ Z _ (lv_sub (l' := [(0, .ref (ad 111)), (1, .int x1), (2, .int x2), (3, .int y0), (4, .int (x4 + 1))]) hl [2, 3, 4, 1, 0] rfl)
      have JN74 : ∀ (σ : io_M) (x1 : Int32) (x2 : Int32) (x4 : Int32) (x5 : Int32), wj_X10_flush_74 (wl_X10_flush_12 n) σ x1 x2 x4 x5 post → ∀ (H : Heap) (locs : List Loc), io_Z D ca ad A s H locs σ → ∀ ls : Array Slot, lv_has ls 6 [(0, .ref (ad 111)), (1, .int x1), (2, .int x2), (4, .int x4), (5, .int x5)] → W p l e (io_rm 1) s m ([.ref (ad 111), .int p1] : List Value).toArray below meth c H locs 0 0 (MQ below (va_Qi (fun r u => io_bl r ∧ post r u) (io_W D ca ad A) A) ([.ref (ad 111), .int p1] : List Value).toArray s 0 0 A) (F0 m 74 ls []) := by
        intro σ x1 x2 x4 x5 hw H locs Z ls hl
        unfold wj_X10_flush_74 at hw
        refine lv_iconst (v := 1) B.1 B.2.1 dX10_flush_74 (by decide) ?_
        refine lv_goto (tgt := 79) B.1 B.2.1 dX10_flush_75 (by decide) ?_
        exact JN79 _ x1 x2 x4 x5 1 hw _ _ Z _ (lv_sub (l' := [(0, .ref (ad 111)), (1, .int x1), (2, .int x2), (4, .int x4), (5, .int x5)]) hl [0, 1, 2, 3, 4] rfl)
      have JN78 : ∀ (σ : io_M) (x1 : Int32) (x2 : Int32) (x4 : Int32) (x5 : Int32), wj_X10_flush_78 (wl_X10_flush_12 n) σ x1 x2 x4 x5 post → ∀ (H : Heap) (locs : List Loc), io_Z D ca ad A s H locs σ → ∀ ls : Array Slot, lv_has ls 6 [(0, .ref (ad 111)), (1, .int x1), (2, .int x2), (4, .int x4), (5, .int x5)] → W p l e (io_rm 1) s m ([.ref (ad 111), .int p1] : List Value).toArray below meth c H locs 0 0 (MQ below (va_Qi (fun r u => io_bl r ∧ post r u) (io_W D ca ad A) A) ([.ref (ad 111), .int p1] : List Value).toArray s 0 0 A) (F0 m 78 ls []) := by
        intro σ x1 x2 x4 x5 hw H locs Z ls hl
        unfold wj_X10_flush_78 at hw
        refine lv_iconst (v := 0) B.1 B.2.1 dX10_flush_78 (by decide) ?_
        exact JN79 _ x1 x2 x4 x5 0 hw _ _ Z _ (lv_sub (l' := [(0, .ref (ad 111)), (1, .int x1), (2, .int x2), (4, .int x4), (5, .int x5)]) hl [0, 1, 2, 3, 4] rfl)
      have JN47 : ∀ (σ : io_M) (x1 : Int32) (x2 : Int32) (x4 : Int32) (y0 : Int32), wj_X10_flush_47 (wl_X10_flush_12 n) σ x1 x2 x4 y0 post → ∀ (H : Heap) (locs : List Loc), io_Z D ca ad A s H locs σ → ∀ ls : Array Slot, lv_has ls 6 [(0, .ref (ad 111)), (1, .int x1), (2, .int x2), (4, .int x4)] → W p l e (io_rm 1) s m ([.ref (ad 111), .int p1] : List Value).toArray below meth c H locs 0 0 (MQ below (va_Qi (fun r u => io_bl r ∧ post r u) (io_W D ca ad A) A) ([.ref (ad 111), .int p1] : List Value).toArray s 0 0 A) (F0 m 47 ls [.int y0]) := by
        intro σ x1 x2 x4 y0 hw H locs Z ls hl
        unfold wj_X10_flush_47 at hw
        refine lv_istore (lv' := [(5, .int y0), (0, .ref (ad 111)), (1, .int x1), (2, .int x2), (4, .int x4)]) B.1 B.2.1 dX10_flush_47 hl (by decide) rfl (fun ls hl => ?_)
        refine lv_iload B.1 B.2.1 dX10_flush_49 (lv_at hl 0 rfl) ?_
        refine lv_if_eq (tgt := 74) B.1 B.2.1 dX10_flush_51 (by decide) (fun k401 => ?_) (fun k401 => ?_)
        · have hw := hw.1 k401
          exact JN74 _ x1 x2 x4 y0 hw _ _ Z _ (lv_sub (l' := [(0, .ref (ad 111)), (1, .int x1), (2, .int x2), (4, .int x4), (5, .int y0)]) hl [1, 2, 3, 4, 0] rfl)
        · have hw := hw.2 k401
          refine lv_aload_n B.1 B.2.1 dX10_flush_54 rfl (lv_at hl 1 rfl) ?_
          refine io_g_10_1 B Z dX10_flush_55 ?_
          refine lv_iload_n B.1 B.2.1 dX10_flush_58 rfl (lv_at hl 3 rfl) ?_
          refine io_iald B Z 113 (by decide) io_e_113 hw.1 dX10_flush_59 ?_
          have hw := hw.2
          refine lv_bipush (v := 40) B.1 B.2.1 dX10_flush_60 (by decide) ?_
          refine lv_icmp_ge (tgt := 78) B.1 B.2.1 dX10_flush_62 (by decide) (fun k402 => ?_) (fun k402 => ?_)
          · have hw := hw.1 k402
            exact JN78 _ x1 x2 x4 y0 hw _ _ Z _ (lv_sub (l' := [(0, .ref (ad 111)), (1, .int x1), (2, .int x2), (4, .int x4), (5, .int y0)]) hl [1, 2, 3, 4, 0] rfl)
          · have hw := hw.2 k402
            refine lv_aload_n B.1 B.2.1 dX10_flush_65 rfl (lv_at hl 1 rfl) ?_
            refine io_call_i Z (io_runV (ci := 10) (k := 111) [] [] B Z (io_c_X10_allBytes l D ca ad A _ _ hw) io_k_10_131 (io_hR (by decide) (by decide)) rfl (by decide) (io_e_111 _) rfl hl.1 (Nat.le_of_ble_eq_true rfl) dX10_flush_66 ⟨Nat.le_refl _, Nat.le_refl _⟩) (fun r403 s404 H locs hw Z => ?_)
            refine lv_bipush (v := 120) B.1 B.2.1 dX10_flush_69 (by decide) ?_
            refine lv_icmp_ge (tgt := 78) B.1 B.2.1 dX10_flush_71 (by decide) (fun k405 => ?_) (fun k405 => ?_)
            · have hw := hw.1 k405
              exact JN78 _ x1 x2 x4 y0 hw _ _ Z _ (lv_sub (l' := [(0, .ref (ad 111)), (1, .int x1), (2, .int x2), (4, .int x4), (5, .int y0)]) hl [1, 2, 3, 4, 0] rfl)
            · have hw := hw.2 k405
              exact JN74 _ x1 x2 x4 y0 hw _ _ Z _ (lv_sub (l' := [(0, .ref (ad 111)), (1, .int x1), (2, .int x2), (4, .int x4), (5, .int y0)]) hl [1, 2, 3, 4, 0] rfl)
      intro σ x1 x2 x3 x4 hw H locs Z ls hl
      unfold wl_X10_flush_12 at hw
      refine lv_iload B.1 B.2.1 dX10_flush_12 (lv_at hl 4 rfl) ?_
      refine lv_aload_n B.1 B.2.1 dX10_flush_14 rfl (lv_at hl 0 rfl) ?_
      refine io_g_10_23 B Z dX10_flush_15 ?_
      refine lv_iload_n B.1 B.2.1 dX10_flush_18 rfl (lv_at hl 1 rfl) ?_
      refine io_iald B Z 130 (by decide) io_e_130 hw.1 dX10_flush_19 ?_
      have hw := hw.2
      refine lv_icmp_ge (tgt := 166) B.1 B.2.1 dX10_flush_20 (by decide) (fun k501 => ?_) (fun k501 => ?_)
      · have hw := hw.1 k501
        refine lv_aload_n B.1 B.2.1 dX10_flush_166 rfl (lv_at hl 0 rfl) ?_
        refine io_g_10_23 B Z dX10_flush_167 ?_
        refine lv_iload_n B.1 B.2.1 dX10_flush_170 rfl (lv_at hl 1 rfl) ?_
        refine lv_iconst (v := 0) B.1 B.2.1 dX10_flush_171 (by decide) ?_
        refine io_iast B Z 130 (by decide) io_e_130 hw.1 dX10_flush_172 (fun s502 H locs e503 Z => ?_)
        have hw := hw.2 s502 e503
        refine lv_iload_n B.1 B.2.1 dX10_flush_173 rfl (lv_at hl 3 rfl) ?_
        exact io_ret_z B Z hr hlk hw.1 hw.2 dX10_flush_174
      · have hw := hw.2 k501
        refine lv_iload_n B.1 B.2.1 dX10_flush_23 rfl (lv_at hl 3 rfl) ?_
        refine lv_if_eq (tgt := 166) B.1 B.2.1 dX10_flush_24 (by decide) (fun k504 => ?_) (fun k504 => ?_)
        · have hw := hw.1 k504
          refine lv_aload_n B.1 B.2.1 dX10_flush_166 rfl (lv_at hl 0 rfl) ?_
          refine io_g_10_23 B Z dX10_flush_167 ?_
          refine lv_iload_n B.1 B.2.1 dX10_flush_170 rfl (lv_at hl 1 rfl) ?_
          refine lv_iconst (v := 0) B.1 B.2.1 dX10_flush_171 (by decide) ?_
          refine io_iast B Z 130 (by decide) io_e_130 hw.1 dX10_flush_172 (fun s505 H locs e506 Z => ?_)
          have hw := hw.2 s505 e506
          refine lv_iload_n B.1 B.2.1 dX10_flush_173 rfl (lv_at hl 3 rfl) ?_
          exact io_ret_z B Z hr hlk hw.1 hw.2 dX10_flush_174
        · have hw := hw.2 k504
          refine lv_aload_n B.1 B.2.1 dX10_flush_27 rfl (lv_at hl 0 rfl) ?_
          refine io_g_10_19 B Z dX10_flush_28 ?_
          refine lv_iload_n B.1 B.2.1 dX10_flush_31 rfl (lv_at hl 1 rfl) ?_
          refine io_iald B Z 126 (by decide) io_e_126 hw.1 dX10_flush_32 ?_
          have hw := hw.2
          refine lv_aload_n B.1 B.2.1 dX10_flush_33 rfl (lv_at hl 0 rfl) ?_
          refine io_g_10_1 B Z dX10_flush_34 ?_
          refine lv_iload_n B.1 B.2.1 dX10_flush_37 rfl (lv_at hl 2 rfl) ?_
          refine io_iald B Z 113 (by decide) io_e_113 hw.1 dX10_flush_38 ?_
          have hw := hw.2
          refine lv_icmp_lt (tgt := 46) B.1 B.2.1 dX10_flush_39 (by decide) (fun k507 => ?_) (fun k507 => ?_)
          · have hw := hw.1 k507
            refine lv_iconst (v := 0) B.1 B.2.1 dX10_flush_46 (by decide) ?_
            exact JN47 _ x1 x2 x4 0 hw _ _ Z _ (lv_sub (l' := [(0, .ref (ad 111)), (1, .int x1), (2, .int x2), (4, .int x4)]) hl [0, 1, 2, 4] rfl)
          · have hw := hw.2 k507
            refine lv_iconst (v := 1) B.1 B.2.1 dX10_flush_42 (by decide) ?_
            refine lv_goto (tgt := 47) B.1 B.2.1 dX10_flush_43 (by decide) ?_
            exact JN47 _ x1 x2 x4 1 hw _ _ Z _ (lv_sub (l' := [(0, .ref (ad 111)), (1, .int x1), (2, .int x2), (4, .int x4)]) hl [0, 1, 2, 4] rfl)
  unfold wp_X10_flush at hw
  refine lv_aload_n B.1 B.2.1 dX10_flush_0 rfl (lv_at hl 0 rfl) ?_
  refine io_g_10_17 B Z dX10_flush_1 ?_
  refine lv_iload_n B.1 B.2.1 dX10_flush_4 rfl (lv_at hl 1 rfl) ?_
  refine io_iald B Z 124 (by decide) io_e_124 hw.1 dX10_flush_5 ?_
  have hw := hw.2
  refine lv_istore_n (lv' := [(2, .int (σ 124 (p1).toNatClampNeg)), (0, .ref (ad 111)), (1, .int p1)]) B.1 B.2.1 dX10_flush_6 rfl hl (by decide) rfl (fun ls hl => ?_)
  refine lv_iconst (v := 1) B.1 B.2.1 dX10_flush_7 (by decide) ?_
  refine lv_istore_n (lv' := [(3, .int 1), (2, .int (σ 124 (p1).toNatClampNeg)), (0, .ref (ad 111)), (1, .int p1)]) B.1 B.2.1 dX10_flush_8 rfl hl (by decide) rfl (fun ls hl => ?_)
  refine lv_iconst (v := 0) B.1 B.2.1 dX10_flush_9 (by decide) ?_
  refine lv_istore (lv' := [(4, .int 0), (3, .int 1), (2, .int (σ 124 (p1).toNatClampNeg)), (0, .ref (ad 111)), (1, .int p1)]) B.1 B.2.1 dX10_flush_10 hl (by decide) rfl (fun ls hl => ?_)
  obtain ⟨n, hw⟩ := hw
  exact LP12 n _ p1 (σ 124 (p1).toNatClampNeg) 1 0 hw _ _ Z _ (lv_sub (l' := [(0, .ref (ad 111)), (1, .int p1), (2, .int (σ 124 (p1).toNatClampNeg)), (3, .int 1), (4, .int 0)]) hl [3, 4, 2, 1, 0] rfl)
def wj_X10_openRefused_52 (σ : io_M) (x1 : Int32) (x2 : Int32) (post : Int32 → io_M → Prop) : Prop := ((x2 = 0 → (wp_X10_isHeldToWrite σ x1 (fun r107 s108 => ((r107 = 0 → (((s108 111 16) = 20 → post 5 s108) ∧ (¬ ((s108 111 16) = 20) → post (-1) s108))) ∧ (¬ (r107 = 0) → post 0 s108))))) ∧ (¬ (x2 = 0) → (wp_X10_isHeld σ x1 (fun r102 s103 => ((r102 = 0 → (((s103 111 16) = 20 → post 5 s103) ∧ (¬ ((s103 111 16) = 20) → post (-1) s103))) ∧ (¬ (r102 = 0) → post 0 s103))))))
def wj_X10_openRefused_35 (σ : io_M) (x1 : Int32) (x2 : Int32) (post : Int32 → io_M → Prop) : Prop := ((x2 = 0 → wj_X10_openRefused_52 σ x1 x2 post) ∧ (¬ (x2 = 0) → (vp_in x1 8 ∧ ((((σ 115 (x1).toNatClampNeg) &&& 2) = 0 → post 2 σ) ∧ (¬ (((σ 115 (x1).toNatClampNeg) &&& 2) = 0) → wj_X10_openRefused_52 σ x1 x2 post)))))
def wj_X10_openRefused_24 (σ : io_M) (x1 : Int32) (x2 : Int32) (post : Int32 → io_M → Prop) : Prop := (vp_in x1 8 ∧ ((((σ 115 (x1).toNatClampNeg) &&& 1) = 0 → post 2 σ) ∧ (¬ (((σ 115 (x1).toNatClampNeg) &&& 1) = 0) → wj_X10_openRefused_35 σ x1 x2 post)))
def wj_X10_openRefused_15 (σ : io_M) (x1 : Int32) (x2 : Int32) (post : Int32 → io_M → Prop) : Prop := ((x2 = 0 → wj_X10_openRefused_24 σ x1 x2 post) ∧ (¬ (x2 = 0) → ((x2 = 3 → wj_X10_openRefused_24 σ x1 x2 post) ∧ (¬ (x2 = 3) → wj_X10_openRefused_35 σ x1 x2 post))))
def wp_X10_openRefused (σ : io_M) (p1 : Int32) (p2 : Int32) (post : Int32 → io_M → Prop) : Prop := ((p2 = 0 → (vp_in p1 8 ∧ (((σ 112 (p1).toNatClampNeg) = 0 → post 1 σ) ∧ (¬ ((σ 112 (p1).toNatClampNeg) = 0) → wj_X10_openRefused_15 σ p1 p2 post)))) ∧ (¬ (p2 = 0) → wj_X10_openRefused_15 σ p1 p2 post))
set_option maxHeartbeats 4000000 in
set_option maxRecDepth 100000 in
theorem io_c_X10_openRefused (l : Launch) (D : va_G) (ca : Nat → ClassId) (ad : Nat → Nat) (A : Nat → Prop) (σ : io_M) (p1 : Int32) (p2 : Int32) (post : Int32 → io_M → Prop) (hw : wp_X10_openRefused σ p1 p2 post) : Met l yX10_openRefused (.code yX10_openRefused cX10_openRefused 3 (some .int) :: io_tb) (io_rm 1) (va_Pc [.ref (ad 111), .int p1, .int p2] (io_W D ca ad A σ)) (va_Qi post (io_W D ca ad A) A) 0 0 A := by
  refine Met.ofW (cc := cX10_openRefused) (maxL := 3) (ret := (some .int)) (by decide) rfl ?_
  intro p e s m args below meth c s₁ Bd hml hv
  obtain ⟨rfl, hW0⟩ := hv
  have Z := io_Z.start hW0
  have B : CallFix p m c cX10_openRefused 3 s _ io_tb RX10 := ⟨Bd.exec, Bd.bytes, hml, findClass_of_methodNamed Bd.named, fun w hw => atoms_spec (ws := (.code yX10_openRefused cX10_openRefused 3 (some .int) :: io_tb)) Bd.pre w (List.mem_cons_of_mem _ hw)⟩
  have hr := Bd.returns
  have hlk := Bd.notSynchronized
  have hl := lv_entry ([.ref (ad 111), .int p1, .int p2]) (n := 3) (Nat.le_of_ble_eq_true rfl)
  rw [lg_entry_eq]
  generalize (lg_sl ([.ref (ad 111), .int p1, .int p2]) ++ List.replicate (3 - (lg_sl ([.ref (ad 111), .int p1, .int p2])).length) Slot.unset).toArray = ls at hl ⊢
  have hl : lv_has ls 3 [(0, .ref (ad 111)), (1, .int p1), (2, .int p2)] := hl
  show W p l e (io_rm 1) s m _ below meth c s.heap [] 0 0 _ (F0 m 0 ls [])
  have JN52 : ∀ (σ : io_M) (x1 : Int32) (x2 : Int32), wj_X10_openRefused_52 σ x1 x2 post → ∀ (H : Heap) (locs : List Loc), io_Z D ca ad A s H locs σ → ∀ ls : Array Slot, lv_has ls 3 [(0, .ref (ad 111)), (1, .int x1), (2, .int x2)] → W p l e (io_rm 1) s m ([.ref (ad 111), .int p1, .int p2] : List Value).toArray below meth c H locs 0 0 (MQ below (va_Qi post (io_W D ca ad A) A) ([.ref (ad 111), .int p1, .int p2] : List Value).toArray s 0 0 A) (F0 m 52 ls []) := by
    intro σ x1 x2 hw H locs Z ls hl
    unfold wj_X10_openRefused_52 at hw
    refine lv_iload_n B.1 B.2.1 dX10_openRefused_52 rfl (lv_at hl 2 rfl) ?_
    refine lv_if_ne (tgt := 67) B.1 B.2.1 dX10_openRefused_53 (by decide) (fun k101 => ?_) (fun k101 => ?_)
    · have hw := hw.2 k101
      refine lv_aload_n B.1 B.2.1 dX10_openRefused_67 rfl (lv_at hl 0 rfl) ?_
      refine lv_iload_n B.1 B.2.1 dX10_openRefused_68 rfl (lv_at hl 1 rfl) ?_
      refine io_call_i Z (io_runV (ci := 10) (k := 111) [.int x1] [] B Z (io_c_X10_isHeld l D ca ad A _ x1 _ hw) io_k_10_164 (io_hR (by decide) (by decide)) rfl (by decide) (io_e_111 _) rfl hl.1 (Nat.le_of_ble_eq_true rfl) dX10_openRefused_69 ⟨Nat.le_refl _, Nat.le_refl _⟩) (fun r102 s103 H locs hw Z => ?_)
      obtain ⟨b104, hw⟩ := hw
      refine lv_if_eq (tgt := 77) B.1 B.2.1 dX10_openRefused_72 (by decide) (fun k105 => ?_) (fun k105 => ?_)
      · have hw := hw.1 k105
        refine lv_aload_n B.1 B.2.1 dX10_openRefused_77 rfl (lv_at hl 0 rfl) ?_
        refine io_g_10_16 B Z dX10_openRefused_78 ?_
        refine lv_bipush (v := 20) B.1 B.2.1 dX10_openRefused_81 (by decide) ?_
        refine lv_icmp_ne (tgt := 90) B.1 B.2.1 dX10_openRefused_83 (by decide) (fun k106 => ?_) (fun k106 => ?_)
        · have hw := hw.2 k106
          refine lv_iconst (v := (-1)) B.1 B.2.1 dX10_openRefused_90 (by decide) ?_
          exact io_ret_i B Z hr hlk hw dX10_openRefused_91
        · have hw := hw.1 k106
          refine lv_iconst (v := 5) B.1 B.2.1 dX10_openRefused_86 (by decide) ?_
          refine lv_goto (tgt := 91) B.1 B.2.1 dX10_openRefused_87 (by decide) ?_
          exact io_ret_i B Z hr hlk hw dX10_openRefused_91
      · have hw := hw.2 k105
        refine lv_iconst (v := 0) B.1 B.2.1 dX10_openRefused_75 (by decide) ?_
        exact io_ret_i B Z hr hlk hw dX10_openRefused_76
    · have hw := hw.1 k101
      refine lv_aload_n B.1 B.2.1 dX10_openRefused_56 rfl (lv_at hl 0 rfl) ?_
      refine lv_iload_n B.1 B.2.1 dX10_openRefused_57 rfl (lv_at hl 1 rfl) ?_
      refine io_call_i Z (io_runV (ci := 10) (k := 111) [.int x1] [] B Z (io_c_X10_isHeldToWrite l D ca ad A _ x1 _ hw) io_k_10_161 (io_hR (by decide) (by decide)) rfl (by decide) (io_e_111 _) rfl hl.1 (Nat.le_of_ble_eq_true rfl) dX10_openRefused_58 ⟨Nat.le_refl _, Nat.le_refl _⟩) (fun r107 s108 H locs hw Z => ?_)
      obtain ⟨b109, hw⟩ := hw
      refine lv_if_eq (tgt := 77) B.1 B.2.1 dX10_openRefused_61 (by decide) (fun k110 => ?_) (fun k110 => ?_)
      · have hw := hw.1 k110
        refine lv_aload_n B.1 B.2.1 dX10_openRefused_77 rfl (lv_at hl 0 rfl) ?_
        refine io_g_10_16 B Z dX10_openRefused_78 ?_
        refine lv_bipush (v := 20) B.1 B.2.1 dX10_openRefused_81 (by decide) ?_
        refine lv_icmp_ne (tgt := 90) B.1 B.2.1 dX10_openRefused_83 (by decide) (fun k111 => ?_) (fun k111 => ?_)
        · have hw := hw.2 k111
          refine lv_iconst (v := (-1)) B.1 B.2.1 dX10_openRefused_90 (by decide) ?_
          exact io_ret_i B Z hr hlk hw dX10_openRefused_91
        · have hw := hw.1 k111
          refine lv_iconst (v := 5) B.1 B.2.1 dX10_openRefused_86 (by decide) ?_
          refine lv_goto (tgt := 91) B.1 B.2.1 dX10_openRefused_87 (by decide) ?_
          exact io_ret_i B Z hr hlk hw dX10_openRefused_91
      · have hw := hw.2 k110
        refine lv_goto (tgt := 75) B.1 B.2.1 dX10_openRefused_64 (by decide) ?_
        refine lv_iconst (v := 0) B.1 B.2.1 dX10_openRefused_75 (by decide) ?_
        exact io_ret_i B Z hr hlk hw dX10_openRefused_76
  have JN35 : ∀ (σ : io_M) (x1 : Int32) (x2 : Int32), wj_X10_openRefused_35 σ x1 x2 post → ∀ (H : Heap) (locs : List Loc), io_Z D ca ad A s H locs σ → ∀ ls : Array Slot, lv_has ls 3 [(0, .ref (ad 111)), (1, .int x1), (2, .int x2)] → W p l e (io_rm 1) s m ([.ref (ad 111), .int p1, .int p2] : List Value).toArray below meth c H locs 0 0 (MQ below (va_Qi post (io_W D ca ad A) A) ([.ref (ad 111), .int p1, .int p2] : List Value).toArray s 0 0 A) (F0 m 35 ls []) := by
    intro σ x1 x2 hw H locs Z ls hl
    unfold wj_X10_openRefused_35 at hw
    refine lv_iload_n B.1 B.2.1 dX10_openRefused_35 rfl (lv_at hl 2 rfl) ?_
    refine lv_if_eq (tgt := 52) B.1 B.2.1 dX10_openRefused_36 (by decide) (fun k201 => ?_) (fun k201 => ?_)
    · have hw := hw.1 k201
      exact JN52 _ x1 x2 hw _ _ Z _ (lv_sub (l' := [(0, .ref (ad 111)), (1, .int x1), (2, .int x2)]) hl [0, 1, 2] rfl)
    · have hw := hw.2 k201
      refine lv_aload_n B.1 B.2.1 dX10_openRefused_39 rfl (lv_at hl 0 rfl) ?_
      refine io_g_10_3 B Z dX10_openRefused_40 ?_
      refine lv_iload_n B.1 B.2.1 dX10_openRefused_43 rfl (lv_at hl 1 rfl) ?_
      refine io_iald B Z 115 (by decide) io_e_115 hw.1 dX10_openRefused_44 ?_
      have hw := hw.2
      refine lv_iconst (v := 2) B.1 B.2.1 dX10_openRefused_45 (by decide) ?_
      refine lv_iand B.1 B.2.1 dX10_openRefused_46 ?_
      refine lv_if_ne (tgt := 52) B.1 B.2.1 dX10_openRefused_47 (by decide) (fun k202 => ?_) (fun k202 => ?_)
      · have hw := hw.2 k202
        exact JN52 _ x1 x2 hw _ _ Z _ (lv_sub (l' := [(0, .ref (ad 111)), (1, .int x1), (2, .int x2)]) hl [0, 1, 2] rfl)
      · have hw := hw.1 k202
        refine lv_iconst (v := 2) B.1 B.2.1 dX10_openRefused_50 (by decide) ?_
        exact io_ret_i B Z hr hlk hw dX10_openRefused_51
  have JN24 : ∀ (σ : io_M) (x1 : Int32) (x2 : Int32), wj_X10_openRefused_24 σ x1 x2 post → ∀ (H : Heap) (locs : List Loc), io_Z D ca ad A s H locs σ → ∀ ls : Array Slot, lv_has ls 3 [(0, .ref (ad 111)), (1, .int x1), (2, .int x2)] → W p l e (io_rm 1) s m ([.ref (ad 111), .int p1, .int p2] : List Value).toArray below meth c H locs 0 0 (MQ below (va_Qi post (io_W D ca ad A) A) ([.ref (ad 111), .int p1, .int p2] : List Value).toArray s 0 0 A) (F0 m 24 ls []) := by
    intro σ x1 x2 hw H locs Z ls hl
    unfold wj_X10_openRefused_24 at hw
    refine lv_aload_n B.1 B.2.1 dX10_openRefused_24 rfl (lv_at hl 0 rfl) ?_
    refine io_g_10_3 B Z dX10_openRefused_25 ?_
    refine lv_iload_n B.1 B.2.1 dX10_openRefused_28 rfl (lv_at hl 1 rfl) ?_
    refine io_iald B Z 115 (by decide) io_e_115 hw.1 dX10_openRefused_29 ?_
    have hw := hw.2
    refine lv_iconst (v := 1) B.1 B.2.1 dX10_openRefused_30 (by decide) ?_
    refine lv_iand B.1 B.2.1 dX10_openRefused_31 ?_
    refine lv_if_eq (tgt := 50) B.1 B.2.1 dX10_openRefused_32 (by decide) (fun k301 => ?_) (fun k301 => ?_)
    · have hw := hw.1 k301
      refine lv_iconst (v := 2) B.1 B.2.1 dX10_openRefused_50 (by decide) ?_
      exact io_ret_i B Z hr hlk hw dX10_openRefused_51
    · have hw := hw.2 k301
      exact JN35 _ x1 x2 hw _ _ Z _ (lv_sub (l' := [(0, .ref (ad 111)), (1, .int x1), (2, .int x2)]) hl [0, 1, 2] rfl)
  have JN15 : ∀ (σ : io_M) (x1 : Int32) (x2 : Int32), wj_X10_openRefused_15 σ x1 x2 post → ∀ (H : Heap) (locs : List Loc), io_Z D ca ad A s H locs σ → ∀ ls : Array Slot, lv_has ls 3 [(0, .ref (ad 111)), (1, .int x1), (2, .int x2)] → W p l e (io_rm 1) s m ([.ref (ad 111), .int p1, .int p2] : List Value).toArray below meth c H locs 0 0 (MQ below (va_Qi post (io_W D ca ad A) A) ([.ref (ad 111), .int p1, .int p2] : List Value).toArray s 0 0 A) (F0 m 15 ls []) := by
    intro σ x1 x2 hw H locs Z ls hl
    unfold wj_X10_openRefused_15 at hw
    refine lv_iload_n B.1 B.2.1 dX10_openRefused_15 rfl (lv_at hl 2 rfl) ?_
    refine lv_if_eq (tgt := 24) B.1 B.2.1 dX10_openRefused_16 (by decide) (fun k401 => ?_) (fun k401 => ?_)
    · have hw := hw.1 k401
      exact JN24 _ x1 x2 hw _ _ Z _ (lv_sub (l' := [(0, .ref (ad 111)), (1, .int x1), (2, .int x2)]) hl [0, 1, 2] rfl)
    · have hw := hw.2 k401
      refine lv_iload_n B.1 B.2.1 dX10_openRefused_19 rfl (lv_at hl 2 rfl) ?_
      refine lv_iconst (v := 3) B.1 B.2.1 dX10_openRefused_20 (by decide) ?_
      refine lv_icmp_ne (tgt := 35) B.1 B.2.1 dX10_openRefused_21 (by decide) (fun k402 => ?_) (fun k402 => ?_)
      · have hw := hw.2 k402
        exact JN35 _ x1 x2 hw _ _ Z _ (lv_sub (l' := [(0, .ref (ad 111)), (1, .int x1), (2, .int x2)]) hl [0, 1, 2] rfl)
      · have hw := hw.1 k402
        exact JN24 _ x1 x2 hw _ _ Z _ (lv_sub (l' := [(0, .ref (ad 111)), (1, .int x1), (2, .int x2)]) hl [0, 1, 2] rfl)
  unfold wp_X10_openRefused at hw
  refine lv_iload_n B.1 B.2.1 dX10_openRefused_0 rfl (lv_at hl 2 rfl) ?_
  refine lv_if_ne (tgt := 15) B.1 B.2.1 dX10_openRefused_1 (by decide) (fun k2 => ?_) (fun k2 => ?_)
  · have hw := hw.2 k2
    exact JN15 _ p1 p2 hw _ _ Z _ (lv_sub (l' := [(0, .ref (ad 111)), (1, .int p1), (2, .int p2)]) hl [0, 1, 2] rfl)
  · have hw := hw.1 k2
    refine lv_aload_n B.1 B.2.1 dX10_openRefused_4 rfl (lv_at hl 0 rfl) ?_
    refine io_g_10_0 B Z dX10_openRefused_5 ?_
    refine lv_iload_n B.1 B.2.1 dX10_openRefused_8 rfl (lv_at hl 1 rfl) ?_
    refine io_zald B Z 112 (by decide) io_e_112 hw.1 dX10_openRefused_9 ?_
    have hw := hw.2
    refine lv_if_ne (tgt := 15) B.1 B.2.1 dX10_openRefused_10 (by decide) (fun k3 => ?_) (fun k3 => ?_)
    · have hw := hw.2 k3
      exact JN15 _ p1 p2 hw _ _ Z _ (lv_sub (l' := [(0, .ref (ad 111)), (1, .int p1), (2, .int p2)]) hl [0, 1, 2] rfl)
    · have hw := hw.1 k3
      refine lv_iconst (v := 1) B.1 B.2.1 dX10_openRefused_13 (by decide) ?_
      exact io_ret_i B Z hr hlk hw dX10_openRefused_14
def wp_X10_fails (σ : io_M) (p1 : Int32) (p2 : Int32) (post : io_M → Prop) : Prop := (∀ s2, s2 = io_up σ 111 48 1 → (∀ s4, s4 = io_up s2 111 49 p2 → (∀ s6, s6 = io_up s4 111 50 p1 → (∀ s8, s8 = io_up s6 111 38 ((s6 111 38) - 1) → post s8))))
set_option maxHeartbeats 4000000 in
set_option maxRecDepth 100000 in
theorem io_c_X10_fails (l : Launch) (D : va_G) (ca : Nat → ClassId) (ad : Nat → Nat) (A : Nat → Prop) (σ : io_M) (p1 : Int32) (p2 : Int32) (post : io_M → Prop) (hw : wp_X10_fails σ p1 p2 post) : Met l yX10_fails (.code yX10_fails cX10_fails 3 none :: io_tb) (io_rm 0) (va_Pc [.ref (ad 111), .int p1, .int p2] (io_W D ca ad A σ)) (va_Qv post (io_W D ca ad A) A) 0 0 A := by
  refine Met.ofW (cc := cX10_fails) (maxL := 3) (ret := none) (by decide) rfl ?_
  intro p e s m args below meth c s₁ Bd hml hv
  obtain ⟨rfl, hW0⟩ := hv
  have Z := io_Z.start hW0
  have B : CallFix p m c cX10_fails 3 s _ io_tb RX10 := ⟨Bd.exec, Bd.bytes, hml, findClass_of_methodNamed Bd.named, fun w hw => atoms_spec (ws := (.code yX10_fails cX10_fails 3 none :: io_tb)) Bd.pre w (List.mem_cons_of_mem _ hw)⟩
  have hr := Bd.returns
  have hlk := Bd.notSynchronized
  have hl := lv_entry ([.ref (ad 111), .int p1, .int p2]) (n := 3) (Nat.le_of_ble_eq_true rfl)
  rw [lg_entry_eq]
  generalize (lg_sl ([.ref (ad 111), .int p1, .int p2]) ++ List.replicate (3 - (lg_sl ([.ref (ad 111), .int p1, .int p2])).length) Slot.unset).toArray = ls at hl ⊢
  have hl : lv_has ls 3 [(0, .ref (ad 111)), (1, .int p1), (2, .int p2)] := hl
  show W p l e (io_rm 0) s m _ below meth c s.heap [] 0 0 _ (F0 m 0 ls [])
  unfold wp_X10_fails at hw
  refine lv_aload_n B.1 B.2.1 dX10_fails_0 rfl (lv_at hl 0 rfl) ?_
  refine lv_iconst (v := 1) B.1 B.2.1 dX10_fails_1 (by decide) ?_
  refine io_p_10_48 B Z dX10_fails_2 (fun s2 H locs e3 Z => ?_)
  have hw := hw s2 e3
  refine lv_aload_n B.1 B.2.1 dX10_fails_5 rfl (lv_at hl 0 rfl) ?_
  refine lv_iload_n B.1 B.2.1 dX10_fails_6 rfl (lv_at hl 2 rfl) ?_
  refine io_p_10_49 B Z dX10_fails_7 (fun s4 H locs e5 Z => ?_)
  have hw := hw s4 e5
  refine lv_aload_n B.1 B.2.1 dX10_fails_10 rfl (lv_at hl 0 rfl) ?_
  refine lv_iload_n B.1 B.2.1 dX10_fails_11 rfl (lv_at hl 1 rfl) ?_
  refine io_p_10_50 B Z dX10_fails_12 (fun s6 H locs e7 Z => ?_)
  have hw := hw s6 e7
  refine lv_aload_n B.1 B.2.1 dX10_fails_15 rfl (lv_at hl 0 rfl) ?_
  refine lv_dup B.1 B.2.1 dX10_fails_16 rfl ?_
  refine io_g_10_38 B Z dX10_fails_17 ?_
  refine lv_iconst (v := 1) B.1 B.2.1 dX10_fails_20 (by decide) ?_
  refine lv_isub B.1 B.2.1 dX10_fails_21 ?_
  refine io_p_10_38 B Z dX10_fails_22 (fun s8 H locs e9 Z => ?_)
  have hw := hw s8 e9
  exact io_ret_v B Z hr hlk hw dX10_fails_25
def wp_X10_gives (σ : io_M) (p1 : Int32) (p2 : Int32) (post : io_M → Prop) : Prop := (∀ s2, s2 = io_up σ 111 46 p1 → (∀ s4, s4 = io_up s2 111 47 p2 → (∀ s6, s6 = io_up s4 111 38 ((s4 111 38) - 1) → post s6)))
set_option maxHeartbeats 4000000 in
set_option maxRecDepth 100000 in
theorem io_c_X10_gives (l : Launch) (D : va_G) (ca : Nat → ClassId) (ad : Nat → Nat) (A : Nat → Prop) (σ : io_M) (p1 : Int32) (p2 : Int32) (post : io_M → Prop) (hw : wp_X10_gives σ p1 p2 post) : Met l yX10_gives (.code yX10_gives cX10_gives 3 none :: io_tb) (io_rm 0) (va_Pc [.ref (ad 111), .int p1, .int p2] (io_W D ca ad A σ)) (va_Qv post (io_W D ca ad A) A) 0 0 A := by
  refine Met.ofW (cc := cX10_gives) (maxL := 3) (ret := none) (by decide) rfl ?_
  intro p e s m args below meth c s₁ Bd hml hv
  obtain ⟨rfl, hW0⟩ := hv
  have Z := io_Z.start hW0
  have B : CallFix p m c cX10_gives 3 s _ io_tb RX10 := ⟨Bd.exec, Bd.bytes, hml, findClass_of_methodNamed Bd.named, fun w hw => atoms_spec (ws := (.code yX10_gives cX10_gives 3 none :: io_tb)) Bd.pre w (List.mem_cons_of_mem _ hw)⟩
  have hr := Bd.returns
  have hlk := Bd.notSynchronized
  have hl := lv_entry ([.ref (ad 111), .int p1, .int p2]) (n := 3) (Nat.le_of_ble_eq_true rfl)
  rw [lg_entry_eq]
  generalize (lg_sl ([.ref (ad 111), .int p1, .int p2]) ++ List.replicate (3 - (lg_sl ([.ref (ad 111), .int p1, .int p2])).length) Slot.unset).toArray = ls at hl ⊢
  have hl : lv_has ls 3 [(0, .ref (ad 111)), (1, .int p1), (2, .int p2)] := hl
  show W p l e (io_rm 0) s m _ below meth c s.heap [] 0 0 _ (F0 m 0 ls [])
  unfold wp_X10_gives at hw
  refine lv_aload_n B.1 B.2.1 dX10_gives_0 rfl (lv_at hl 0 rfl) ?_
  refine lv_iload_n B.1 B.2.1 dX10_gives_1 rfl (lv_at hl 1 rfl) ?_
  refine io_p_10_46 B Z dX10_gives_2 (fun s2 H locs e3 Z => ?_)
  have hw := hw s2 e3
  refine lv_aload_n B.1 B.2.1 dX10_gives_5 rfl (lv_at hl 0 rfl) ?_
  refine lv_iload_n B.1 B.2.1 dX10_gives_6 rfl (lv_at hl 2 rfl) ?_
  refine io_p_10_47 B Z dX10_gives_7 (fun s4 H locs e5 Z => ?_)
  have hw := hw s4 e5
  refine lv_aload_n B.1 B.2.1 dX10_gives_10 rfl (lv_at hl 0 rfl) ?_
  refine lv_dup B.1 B.2.1 dX10_gives_11 rfl ?_
  refine io_g_10_38 B Z dX10_gives_12 ?_
  refine lv_iconst (v := 1) B.1 B.2.1 dX10_gives_15 (by decide) ?_
  refine lv_isub B.1 B.2.1 dX10_gives_16 ?_
  refine io_p_10_38 B Z dX10_gives_17 (fun s6 H locs e7 Z => ?_)
  have hw := hw s6 e7
  exact io_ret_v B Z hr hlk hw dX10_gives_20
def wj_X10_opens_107 (σ : io_M) (x1 : Int32) (x5 : Int32) (y0 : Int32) (y1 : Int32) (post : io_M → Prop) : Prop := (vp_in y1 20 ∧ ∀ s101, s101 = io_up σ 126 (y1).toNatClampNeg (y0) → (vp_in x5 20 ∧ ∀ s103, s103 = io_up s101 127 (x5).toNatClampNeg (0) → (vp_in x5 20 ∧ ∀ s105, s105 = io_up s103 129 (x5).toNatClampNeg (0) → (vp_in x5 20 ∧ ∀ s107, s107 = io_up s105 130 (x5).toNatClampNeg (0) → (vp_in x5 20 ∧ ∀ s109, s109 = io_up s107 132 (x5).toNatClampNeg (0) → (vp_in x5 20 ∧ ∀ s111, s111 = io_up s109 133 (x5).toNatClampNeg (0) → (vp_in x5 20 ∧ ∀ s113, s113 = io_up s111 134 (x5).toNatClampNeg (0) → (∀ s115, s115 = io_up s113 111 16 ((s113 111 16) + 1) → (wp_X10_note s115 x1 (fun s118 => (wp_X10_gives s118 1 x5 (fun s120 => post s120))))))))))))
def wj_X10_opens_57 (σ : io_M) (x1 : Int32) (x2 : Int32) (x3 : Int32) (post : io_M → Prop) : Prop := (vp_in x2 8 ∧ ∀ s201, s201 = io_up σ 112 (x2).toNatClampNeg ((vp_nar .boolean 1)) → (vp_in (s201 111 16) 20 ∧ ∀ s203, s203 = io_up s201 124 ((s201 111 16)).toNatClampNeg (x2) → (vp_in (s201 111 16) 20 ∧ ∀ s205, s205 = io_up s203 125 ((s201 111 16)).toNatClampNeg (x3) → ((x3 = 2 → (vp_in x2 8 ∧ wj_X10_opens_107 s205 x1 (s201 111 16) (s205 113 (x2).toNatClampNeg) (s201 111 16) post)) ∧ (¬ (x3 = 2) → wj_X10_opens_107 s205 x1 (s201 111 16) 0 (s201 111 16) post)))))
def wj_X10_opens_50 (σ : io_M) (x1 : Int32) (x2 : Int32) (x3 : Int32) (post : io_M → Prop) : Prop := (vp_in x2 8 ∧ ∀ s301, s301 = io_up σ 113 (x2).toNatClampNeg (0) → wj_X10_opens_57 s301 x1 x2 x3 post)
def wp_X10_opens (σ : io_M) (p1 : Int32) (post : io_M → Prop) : Prop := (vp_in p1 60 ∧ (vp_in p1 60 ∧ (wp_X10_openRefused σ (σ 119 (p1).toNatClampNeg) (σ 120 (p1).toNatClampNeg) (fun r2 s3 => ((r2 = (-1) → (vp_in (σ 119 (p1).toNatClampNeg) 8 ∧ (((s3 112 ((σ 119 (p1).toNatClampNeg)).toNatClampNeg) = 0 → wj_X10_opens_50 s3 p1 (σ 119 (p1).toNatClampNeg) (σ 120 (p1).toNatClampNeg) post) ∧ (¬ ((s3 112 ((σ 119 (p1).toNatClampNeg)).toNatClampNeg) = 0) → (((σ 120 (p1).toNatClampNeg) = 1 → wj_X10_opens_50 s3 p1 (σ 119 (p1).toNatClampNeg) (σ 120 (p1).toNatClampNeg) post) ∧ (¬ ((σ 120 (p1).toNatClampNeg) = 1) → wj_X10_opens_57 s3 p1 (σ 119 (p1).toNatClampNeg) (σ 120 (p1).toNatClampNeg) post)))))) ∧ (¬ (r2 = (-1)) → (wp_X10_fails s3 p1 r2 (fun s8 => post s8))))))))
set_option maxHeartbeats 4000000 in
set_option maxRecDepth 100000 in
theorem io_c_X10_opens (l : Launch) (D : va_G) (ca : Nat → ClassId) (ad : Nat → Nat) (A : Nat → Prop) (σ : io_M) (p1 : Int32) (post : io_M → Prop) (hw : wp_X10_opens σ p1 post) : Met l yX10_opens (.code yX10_opens cX10_opens 6 none :: io_tb) (io_rm 2) (va_Pc [.ref (ad 111), .int p1] (io_W D ca ad A σ)) (va_Qv post (io_W D ca ad A) A) 0 0 A := by
  refine Met.ofW (cc := cX10_opens) (maxL := 6) (ret := none) (by decide) rfl ?_
  intro p e s m args below meth c s₁ Bd hml hv
  obtain ⟨rfl, hW0⟩ := hv
  have Z := io_Z.start hW0
  have B : CallFix p m c cX10_opens 6 s _ io_tb RX10 := ⟨Bd.exec, Bd.bytes, hml, findClass_of_methodNamed Bd.named, fun w hw => atoms_spec (ws := (.code yX10_opens cX10_opens 6 none :: io_tb)) Bd.pre w (List.mem_cons_of_mem _ hw)⟩
  have hr := Bd.returns
  have hlk := Bd.notSynchronized
  have hl := lv_entry ([.ref (ad 111), .int p1]) (n := 6) (Nat.le_of_ble_eq_true rfl)
  rw [lg_entry_eq]
  generalize (lg_sl ([.ref (ad 111), .int p1]) ++ List.replicate (6 - (lg_sl ([.ref (ad 111), .int p1])).length) Slot.unset).toArray = ls at hl ⊢
  have hl : lv_has ls 6 [(0, .ref (ad 111)), (1, .int p1)] := hl
  show W p l e (io_rm 2) s m _ below meth c s.heap [] 0 0 _ (F0 m 0 ls [])
  have JN107 : ∀ (σ : io_M) (x1 : Int32) (x5 : Int32) (y0 : Int32) (y1 : Int32), wj_X10_opens_107 σ x1 x5 y0 y1 post → ∀ (H : Heap) (locs : List Loc), io_Z D ca ad A s H locs σ → ∀ ls : Array Slot, lv_has ls 6 [(0, .ref (ad 111)), (1, .int x1), (5, .int x5)] → W p l e (io_rm 2) s m ([.ref (ad 111), .int p1] : List Value).toArray below meth c H locs 0 0 (MQ below (va_Qv post (io_W D ca ad A) A) ([.ref (ad 111), .int p1] : List Value).toArray s 0 0 A) (F0 m 107 ls [.int y0, .int y1, .ref (ad 126)]) := by
    intro σ x1 x5 y0 y1 hw H locs Z ls hl
    unfold wj_X10_opens_107 at hw
    refine io_iast B Z 126 (by decide) io_e_126 hw.1 dX10_opens_107 (fun s101 H locs e102 Z => ?_)
    have hw := hw.2 s101 e102
    refine lv_aload_n B.1 B.2.1 dX10_opens_108 rfl (lv_at hl 0 rfl) ?_
    refine io_g_10_20 B Z dX10_opens_109 ?_
    refine lv_iload B.1 B.2.1 dX10_opens_112 (lv_at hl 2 rfl) ?_
    refine lv_iconst (v := 0) B.1 B.2.1 dX10_opens_114 (by decide) ?_
    refine io_iast B Z 127 (by decide) io_e_127 hw.1 dX10_opens_115 (fun s103 H locs e104 Z => ?_)
    have hw := hw.2 s103 e104
    refine lv_aload_n B.1 B.2.1 dX10_opens_116 rfl (lv_at hl 0 rfl) ?_
    refine io_g_10_22 B Z dX10_opens_117 ?_
    refine lv_iload B.1 B.2.1 dX10_opens_120 (lv_at hl 2 rfl) ?_
    refine lv_iconst (v := 0) B.1 B.2.1 dX10_opens_122 (by decide) ?_
    refine io_iast B Z 129 (by decide) io_e_129 hw.1 dX10_opens_123 (fun s105 H locs e106 Z => ?_)
    have hw := hw.2 s105 e106
    refine lv_aload_n B.1 B.2.1 dX10_opens_124 rfl (lv_at hl 0 rfl) ?_
    refine io_g_10_23 B Z dX10_opens_125 ?_
    refine lv_iload B.1 B.2.1 dX10_opens_128 (lv_at hl 2 rfl) ?_
    refine lv_iconst (v := 0) B.1 B.2.1 dX10_opens_130 (by decide) ?_
    refine io_iast B Z 130 (by decide) io_e_130 hw.1 dX10_opens_131 (fun s107 H locs e108 Z => ?_)
    have hw := hw.2 s107 e108
    refine lv_aload_n B.1 B.2.1 dX10_opens_132 rfl (lv_at hl 0 rfl) ?_
    refine io_g_10_25 B Z dX10_opens_133 ?_
    refine lv_iload B.1 B.2.1 dX10_opens_136 (lv_at hl 2 rfl) ?_
    refine lv_iconst (v := 0) B.1 B.2.1 dX10_opens_138 (by decide) ?_
    refine io_iast B Z 132 (by decide) io_e_132 hw.1 dX10_opens_139 (fun s109 H locs e110 Z => ?_)
    have hw := hw.2 s109 e110
    refine lv_aload_n B.1 B.2.1 dX10_opens_140 rfl (lv_at hl 0 rfl) ?_
    refine io_g_10_26 B Z dX10_opens_141 ?_
    refine lv_iload B.1 B.2.1 dX10_opens_144 (lv_at hl 2 rfl) ?_
    refine lv_iconst (v := 0) B.1 B.2.1 dX10_opens_146 (by decide) ?_
    refine io_iast B Z 133 (by decide) io_e_133 hw.1 dX10_opens_147 (fun s111 H locs e112 Z => ?_)
    have hw := hw.2 s111 e112
    refine lv_aload_n B.1 B.2.1 dX10_opens_148 rfl (lv_at hl 0 rfl) ?_
    refine io_g_10_27 B Z dX10_opens_149 ?_
    refine lv_iload B.1 B.2.1 dX10_opens_152 (lv_at hl 2 rfl) ?_
    refine lv_iconst (v := 0) B.1 B.2.1 dX10_opens_154 (by decide) ?_
    refine io_iast B Z 134 (by decide) io_e_134 hw.1 dX10_opens_155 (fun s113 H locs e114 Z => ?_)
    have hw := hw.2 s113 e114
    refine lv_aload_n B.1 B.2.1 dX10_opens_156 rfl (lv_at hl 0 rfl) ?_
    refine lv_dup B.1 B.2.1 dX10_opens_157 rfl ?_
    refine io_g_10_16 B Z dX10_opens_158 ?_
    refine lv_iconst (v := 1) B.1 B.2.1 dX10_opens_161 (by decide) ?_
    refine lv_iadd B.1 B.2.1 dX10_opens_162 ?_
    refine io_p_10_16 B Z dX10_opens_163 (fun s115 H locs e116 Z => ?_)
    have hw := hw s115 e116
    refine lv_aload_n B.1 B.2.1 dX10_opens_166 rfl (lv_at hl 0 rfl) ?_
    refine lv_iload_n B.1 B.2.1 dX10_opens_167 rfl (lv_at hl 1 rfl) ?_
    refine io_call_v Z (io_runV (ci := 10) (k := 111) [.int x1] [] B Z (io_c_X10_note l D ca ad A _ x1 _ hw) io_k_10_175 (io_hR (by decide) (by decide)) rfl (by decide) (io_e_111 _) rfl hl.1 (Nat.le_of_ble_eq_true rfl) dX10_opens_168 ⟨Nat.le_refl _, Nat.le_refl _⟩) (fun s118 H locs hw Z => ?_)
    refine lv_aload_n B.1 B.2.1 dX10_opens_171 rfl (lv_at hl 0 rfl) ?_
    refine lv_iconst (v := 1) B.1 B.2.1 dX10_opens_172 (by decide) ?_
    refine lv_iload B.1 B.2.1 dX10_opens_173 (lv_at hl 2 rfl) ?_
    refine io_call_v Z (io_runV (ci := 10) (k := 111) [.int 1, .int x5] [] B Z (io_c_X10_gives l D ca ad A _ 1 x5 _ hw) io_k_10_179 (io_hR (by decide) (by decide)) rfl (by decide) (io_e_111 _) rfl hl.1 (Nat.le_of_ble_eq_true rfl) dX10_opens_175 ⟨Nat.le_refl _, Nat.le_refl _⟩) (fun s120 H locs hw Z => ?_)
    exact io_ret_v B Z hr hlk hw dX10_opens_178
  have JN57 : ∀ (σ : io_M) (x1 : Int32) (x2 : Int32) (x3 : Int32), wj_X10_opens_57 σ x1 x2 x3 post → ∀ (H : Heap) (locs : List Loc), io_Z D ca ad A s H locs σ → ∀ ls : Array Slot, lv_has ls 6 [(0, .ref (ad 111)), (1, .int x1), (2, .int x2), (3, .int x3)] → W p l e (io_rm 2) s m ([.ref (ad 111), .int p1] : List Value).toArray below meth c H locs 0 0 (MQ below (va_Qv post (io_W D ca ad A) A) ([.ref (ad 111), .int p1] : List Value).toArray s 0 0 A) (F0 m 57 ls []) := by
    intro σ x1 x2 x3 hw H locs Z ls hl
    unfold wj_X10_opens_57 at hw
    refine lv_aload_n B.1 B.2.1 dX10_opens_57 rfl (lv_at hl 0 rfl) ?_
    refine io_g_10_0 B Z dX10_opens_58 ?_
    refine lv_iload_n B.1 B.2.1 dX10_opens_61 rfl (lv_at hl 2 rfl) ?_
    refine lv_iconst (v := 1) B.1 B.2.1 dX10_opens_62 (by decide) ?_
    refine io_zast B Z 112 (by decide) io_e_112 hw.1 dX10_opens_63 (fun s201 H locs e202 Z => ?_)
    have hw := hw.2 s201 e202
    refine lv_aload_n B.1 B.2.1 dX10_opens_64 rfl (lv_at hl 0 rfl) ?_
    refine io_g_10_16 B Z dX10_opens_65 ?_
    refine lv_istore (lv' := [(5, .int (s201 111 16)), (0, .ref (ad 111)), (1, .int x1), (2, .int x2), (3, .int x3)]) B.1 B.2.1 dX10_opens_68 hl (by decide) rfl (fun ls hl => ?_)
    refine lv_aload_n B.1 B.2.1 dX10_opens_70 rfl (lv_at hl 1 rfl) ?_
    refine io_g_10_17 B Z dX10_opens_71 ?_
    refine lv_iload B.1 B.2.1 dX10_opens_74 (lv_at hl 0 rfl) ?_
    refine lv_iload_n B.1 B.2.1 dX10_opens_76 rfl (lv_at hl 3 rfl) ?_
    refine io_iast B Z 124 (by decide) io_e_124 hw.1 dX10_opens_77 (fun s203 H locs e204 Z => ?_)
    have hw := hw.2 s203 e204
    refine lv_aload_n B.1 B.2.1 dX10_opens_78 rfl (lv_at hl 1 rfl) ?_
    refine io_g_10_18 B Z dX10_opens_79 ?_
    refine lv_iload B.1 B.2.1 dX10_opens_82 (lv_at hl 0 rfl) ?_
    refine lv_iload_n B.1 B.2.1 dX10_opens_84 rfl (lv_at hl 4 rfl) ?_
    refine io_iast B Z 125 (by decide) io_e_125 hw.1 dX10_opens_85 (fun s205 H locs e206 Z => ?_)
    have hw := hw.2 s205 e206
    refine lv_aload_n B.1 B.2.1 dX10_opens_86 rfl (lv_at hl 1 rfl) ?_
    refine io_g_10_19 B Z dX10_opens_87 ?_
    refine lv_iload B.1 B.2.1 dX10_opens_90 (lv_at hl 0 rfl) ?_
    refine lv_iload_n B.1 B.2.1 dX10_opens_92 rfl (lv_at hl 4 rfl) ?_
    refine lv_iconst (v := 2) B.1 B.2.1 dX10_opens_93 (by decide) ?_
    refine lv_icmp_ne (tgt := 106) B.1 B.2.1 dX10_opens_94 (by decide) (fun k207 => ?_) (fun k207 => ?_)
    · have hw := hw.2 k207
      refine lv_iconst (v := 0) B.1 B.2.1 dX10_opens_106 (by decide) ?_
      exact JN107 _ x1 (s201 111 16) 0 (s201 111 16) hw _ _ Z _ (lv_sub (l' := [(0, .ref (ad 111)), (1, .int x1), (5, .int (s201 111 16))]) hl [1, 2, 0] rfl)
    · have hw := hw.1 k207
      refine lv_aload_n B.1 B.2.1 dX10_opens_97 rfl (lv_at hl 1 rfl) ?_
      refine io_g_10_1 B Z dX10_opens_98 ?_
      refine lv_iload_n B.1 B.2.1 dX10_opens_101 rfl (lv_at hl 3 rfl) ?_
      refine io_iald B Z 113 (by decide) io_e_113 hw.1 dX10_opens_102 ?_
      have hw := hw.2
      refine lv_goto (tgt := 107) B.1 B.2.1 dX10_opens_103 (by decide) ?_
      exact JN107 _ x1 (s201 111 16) (s205 113 (x2).toNatClampNeg) (s201 111 16) hw _ _ Z _ (lv_sub (l' := [(0, .ref (ad 111)), (1, .int x1), (5, .int (s201 111 16))]) hl [1, 2, 0] rfl)
  have JN50 : ∀ (σ : io_M) (x1 : Int32) (x2 : Int32) (x3 : Int32), wj_X10_opens_50 σ x1 x2 x3 post → ∀ (H : Heap) (locs : List Loc), io_Z D ca ad A s H locs σ → ∀ ls : Array Slot, lv_has ls 6 [(0, .ref (ad 111)), (1, .int x1), (2, .int x2), (3, .int x3)] → W p l e (io_rm 2) s m ([.ref (ad 111), .int p1] : List Value).toArray below meth c H locs 0 0 (MQ below (va_Qv post (io_W D ca ad A) A) ([.ref (ad 111), .int p1] : List Value).toArray s 0 0 A) (F0 m 50 ls []) := by
    intro σ x1 x2 x3 hw H locs Z ls hl
    unfold wj_X10_opens_50 at hw
    refine lv_aload_n B.1 B.2.1 dX10_opens_50 rfl (lv_at hl 0 rfl) ?_
    refine io_g_10_1 B Z dX10_opens_51 ?_
    refine lv_iload_n B.1 B.2.1 dX10_opens_54 rfl (lv_at hl 2 rfl) ?_
    refine lv_iconst (v := 0) B.1 B.2.1 dX10_opens_55 (by decide) ?_
    refine io_iast B Z 113 (by decide) io_e_113 hw.1 dX10_opens_56 (fun s301 H locs e302 Z => ?_)
    have hw := hw.2 s301 e302
    exact JN57 _ x1 x2 x3 hw _ _ Z _ (lv_sub (l' := [(0, .ref (ad 111)), (1, .int x1), (2, .int x2), (3, .int x3)]) hl [0, 1, 2, 3] rfl)
  unfold wp_X10_opens at hw
  refine lv_aload_n B.1 B.2.1 dX10_opens_0 rfl (lv_at hl 0 rfl) ?_
  refine io_g_10_11 B Z dX10_opens_1 ?_
  refine lv_iload_n B.1 B.2.1 dX10_opens_4 rfl (lv_at hl 1 rfl) ?_
  refine io_iald B Z 119 (by decide) io_e_119 hw.1 dX10_opens_5 ?_
  have hw := hw.2
  refine lv_istore_n (lv' := [(2, .int (σ 119 (p1).toNatClampNeg)), (0, .ref (ad 111)), (1, .int p1)]) B.1 B.2.1 dX10_opens_6 rfl hl (by decide) rfl (fun ls hl => ?_)
  refine lv_aload_n B.1 B.2.1 dX10_opens_7 rfl (lv_at hl 1 rfl) ?_
  refine io_g_10_12 B Z dX10_opens_8 ?_
  refine lv_iload_n B.1 B.2.1 dX10_opens_11 rfl (lv_at hl 2 rfl) ?_
  refine io_iald B Z 120 (by decide) io_e_120 hw.1 dX10_opens_12 ?_
  have hw := hw.2
  refine lv_istore_n (lv' := [(3, .int (σ 120 (p1).toNatClampNeg)), (2, .int (σ 119 (p1).toNatClampNeg)), (0, .ref (ad 111)), (1, .int p1)]) B.1 B.2.1 dX10_opens_13 rfl hl (by decide) rfl (fun ls hl => ?_)
  refine lv_aload_n B.1 B.2.1 dX10_opens_14 rfl (lv_at hl 2 rfl) ?_
  refine lv_iload_n B.1 B.2.1 dX10_opens_15 rfl (lv_at hl 1 rfl) ?_
  refine lv_iload_n B.1 B.2.1 dX10_opens_16 rfl (lv_at hl 0 rfl) ?_
  refine io_call_i Z (io_runV (ci := 10) (k := 111) [.int (σ 119 (p1).toNatClampNeg), .int (σ 120 (p1).toNatClampNeg)] [] B Z (io_c_X10_openRefused l D ca ad A _ (σ 119 (p1).toNatClampNeg) (σ 120 (p1).toNatClampNeg) _ hw) io_k_10_167 (io_hR (by decide) (by decide)) rfl (by decide) (io_e_111 _) rfl hl.1 (Nat.le_of_ble_eq_true rfl) dX10_opens_17 ⟨Nat.le_refl _, Nat.le_refl _⟩) (fun r2 s3 H locs hw Z => ?_)
  refine lv_istore (lv' := [(4, .int r2), (3, .int (σ 120 (p1).toNatClampNeg)), (2, .int (σ 119 (p1).toNatClampNeg)), (0, .ref (ad 111)), (1, .int p1)]) B.1 B.2.1 dX10_opens_20 hl (by decide) rfl (fun ls hl => ?_)
  refine lv_iload B.1 B.2.1 dX10_opens_22 (lv_at hl 0 rfl) ?_
  refine lv_iconst (v := (-1)) B.1 B.2.1 dX10_opens_24 (by decide) ?_
  refine lv_icmp_eq (tgt := 36) B.1 B.2.1 dX10_opens_25 (by decide) (fun k4 => ?_) (fun k4 => ?_)
  · have hw := hw.1 k4
    refine lv_aload_n B.1 B.2.1 dX10_opens_36 rfl (lv_at hl 3 rfl) ?_
    refine io_g_10_0 B Z dX10_opens_37 ?_
    refine lv_iload_n B.1 B.2.1 dX10_opens_40 rfl (lv_at hl 2 rfl) ?_
    refine io_zald B Z 112 (by decide) io_e_112 hw.1 dX10_opens_41 ?_
    have hw := hw.2
    refine lv_if_eq (tgt := 50) B.1 B.2.1 dX10_opens_42 (by decide) (fun k5 => ?_) (fun k5 => ?_)
    · have hw := hw.1 k5
      exact JN50 _ p1 (σ 119 (p1).toNatClampNeg) (σ 120 (p1).toNatClampNeg) hw _ _ Z _ (lv_sub (l' := [(0, .ref (ad 111)), (1, .int p1), (2, .int (σ 119 (p1).toNatClampNeg)), (3, .int (σ 120 (p1).toNatClampNeg))]) hl [3, 4, 2, 1] rfl)
    · have hw := hw.2 k5
      refine lv_iload_n B.1 B.2.1 dX10_opens_45 rfl (lv_at hl 1 rfl) ?_
      refine lv_iconst (v := 1) B.1 B.2.1 dX10_opens_46 (by decide) ?_
      refine lv_icmp_ne (tgt := 57) B.1 B.2.1 dX10_opens_47 (by decide) (fun k6 => ?_) (fun k6 => ?_)
      · have hw := hw.2 k6
        exact JN57 _ p1 (σ 119 (p1).toNatClampNeg) (σ 120 (p1).toNatClampNeg) hw _ _ Z _ (lv_sub (l' := [(0, .ref (ad 111)), (1, .int p1), (2, .int (σ 119 (p1).toNatClampNeg)), (3, .int (σ 120 (p1).toNatClampNeg))]) hl [3, 4, 2, 1] rfl)
      · have hw := hw.1 k6
        exact JN50 _ p1 (σ 119 (p1).toNatClampNeg) (σ 120 (p1).toNatClampNeg) hw _ _ Z _ (lv_sub (l' := [(0, .ref (ad 111)), (1, .int p1), (2, .int (σ 119 (p1).toNatClampNeg)), (3, .int (σ 120 (p1).toNatClampNeg))]) hl [3, 4, 2, 1] rfl)
  · have hw := hw.2 k4
    refine lv_aload_n B.1 B.2.1 dX10_opens_28 rfl (lv_at hl 3 rfl) ?_
    refine lv_iload_n B.1 B.2.1 dX10_opens_29 rfl (lv_at hl 4 rfl) ?_
    refine lv_iload B.1 B.2.1 dX10_opens_30 (lv_at hl 0 rfl) ?_
    refine io_call_v Z (io_runV (ci := 10) (k := 111) [.int p1, .int r2] [] B Z (io_c_X10_fails l D ca ad A _ p1 r2 _ hw) io_k_10_171 (io_hR (by decide) (by decide)) rfl (by decide) (io_e_111 _) rfl hl.1 (Nat.le_of_ble_eq_true rfl) dX10_opens_32 ⟨Nat.le_refl _, Nat.le_refl _⟩) (fun s8 H locs hw Z => ?_)
    exact io_ret_v B Z hr hlk hw dX10_opens_35
def wp_X10_remove (σ : io_M) (p1 : Int32) (post : io_M → Prop) : Prop := (vp_in p1 60 ∧ (vp_in (σ 119 (p1).toNatClampNeg) 8 ∧ (((σ 112 ((σ 119 (p1).toNatClampNeg)).toNatClampNeg) = 0 → (wp_X10_fails σ p1 1 (fun s21 => post s21))) ∧ (¬ ((σ 112 ((σ 119 (p1).toNatClampNeg)).toNatClampNeg) = 0) → (vp_in (σ 119 (p1).toNatClampNeg) 8 ∧ ((((σ 115 ((σ 119 (p1).toNatClampNeg)).toNatClampNeg) &&& 2) = 0 → (wp_X10_fails σ p1 2 (fun s19 => post s19))) ∧ (¬ (((σ 115 ((σ 119 (p1).toNatClampNeg)).toNatClampNeg) &&& 2) = 0) → (wp_X10_isHeld σ (σ 119 (p1).toNatClampNeg) (fun r4 s5 => ((r4 = 0 → (vp_in (σ 119 (p1).toNatClampNeg) 8 ∧ ∀ s8, s8 = io_up s5 112 ((σ 119 (p1).toNatClampNeg)).toNatClampNeg ((vp_nar .boolean 0)) → (vp_in (σ 119 (p1).toNatClampNeg) 8 ∧ ∀ s10, s10 = io_up s8 113 ((σ 119 (p1).toNatClampNeg)).toNatClampNeg (0) → (wp_X10_note s10 p1 (fun s13 => (wp_X10_gives s13 0 0 (fun s15 => post s15))))))) ∧ (¬ (r4 = 0) → (wp_X10_fails s5 p1 0 (fun s17 => post s17)))))))))))))
set_option maxHeartbeats 4000000 in
set_option maxRecDepth 100000 in
theorem io_c_X10_remove (l : Launch) (D : va_G) (ca : Nat → ClassId) (ad : Nat → Nat) (A : Nat → Prop) (σ : io_M) (p1 : Int32) (post : io_M → Prop) (hw : wp_X10_remove σ p1 post) : Met l yX10_remove (.code yX10_remove cX10_remove 3 none :: io_tb) (io_rm 1) (va_Pc [.ref (ad 111), .int p1] (io_W D ca ad A σ)) (va_Qv post (io_W D ca ad A) A) 0 0 A := by
  refine Met.ofW (cc := cX10_remove) (maxL := 3) (ret := none) (by decide) rfl ?_
  intro p e s m args below meth c s₁ Bd hml hv
  obtain ⟨rfl, hW0⟩ := hv
  have Z := io_Z.start hW0
  have B : CallFix p m c cX10_remove 3 s _ io_tb RX10 := ⟨Bd.exec, Bd.bytes, hml, findClass_of_methodNamed Bd.named, fun w hw => atoms_spec (ws := (.code yX10_remove cX10_remove 3 none :: io_tb)) Bd.pre w (List.mem_cons_of_mem _ hw)⟩
  have hr := Bd.returns
  have hlk := Bd.notSynchronized
  have hl := lv_entry ([.ref (ad 111), .int p1]) (n := 3) (Nat.le_of_ble_eq_true rfl)
  rw [lg_entry_eq]
  generalize (lg_sl ([.ref (ad 111), .int p1]) ++ List.replicate (3 - (lg_sl ([.ref (ad 111), .int p1])).length) Slot.unset).toArray = ls at hl ⊢
  have hl : lv_has ls 3 [(0, .ref (ad 111)), (1, .int p1)] := hl
  show W p l e (io_rm 1) s m _ below meth c s.heap [] 0 0 _ (F0 m 0 ls [])
  unfold wp_X10_remove at hw
  refine lv_aload_n B.1 B.2.1 dX10_remove_0 rfl (lv_at hl 0 rfl) ?_
  refine io_g_10_11 B Z dX10_remove_1 ?_
  refine lv_iload_n B.1 B.2.1 dX10_remove_4 rfl (lv_at hl 1 rfl) ?_
  refine io_iald B Z 119 (by decide) io_e_119 hw.1 dX10_remove_5 ?_
  have hw := hw.2
  refine lv_istore_n (lv' := [(2, .int (σ 119 (p1).toNatClampNeg)), (0, .ref (ad 111)), (1, .int p1)]) B.1 B.2.1 dX10_remove_6 rfl hl (by decide) rfl (fun ls hl => ?_)
  refine lv_aload_n B.1 B.2.1 dX10_remove_7 rfl (lv_at hl 1 rfl) ?_
  refine io_g_10_0 B Z dX10_remove_8 ?_
  refine lv_iload_n B.1 B.2.1 dX10_remove_11 rfl (lv_at hl 0 rfl) ?_
  refine io_zald B Z 112 (by decide) io_e_112 hw.1 dX10_remove_12 ?_
  have hw := hw.2
  refine lv_if_ne (tgt := 25) B.1 B.2.1 dX10_remove_13 (by decide) (fun k2 => ?_) (fun k2 => ?_)
  · have hw := hw.2 k2
    refine lv_aload_n B.1 B.2.1 dX10_remove_25 rfl (lv_at hl 1 rfl) ?_
    refine io_g_10_3 B Z dX10_remove_26 ?_
    refine lv_iload_n B.1 B.2.1 dX10_remove_29 rfl (lv_at hl 0 rfl) ?_
    refine io_iald B Z 115 (by decide) io_e_115 hw.1 dX10_remove_30 ?_
    have hw := hw.2
    refine lv_iconst (v := 2) B.1 B.2.1 dX10_remove_31 (by decide) ?_
    refine lv_iand B.1 B.2.1 dX10_remove_32 ?_
    refine lv_if_ne (tgt := 45) B.1 B.2.1 dX10_remove_33 (by decide) (fun k3 => ?_) (fun k3 => ?_)
    · have hw := hw.2 k3
      refine lv_aload_n B.1 B.2.1 dX10_remove_45 rfl (lv_at hl 1 rfl) ?_
      refine lv_iload_n B.1 B.2.1 dX10_remove_46 rfl (lv_at hl 0 rfl) ?_
      refine io_call_i Z (io_runV (ci := 10) (k := 111) [.int (σ 119 (p1).toNatClampNeg)] [] B Z (io_c_X10_isHeld l D ca ad A _ (σ 119 (p1).toNatClampNeg) _ hw) io_k_10_164 (io_hR (by decide) (by decide)) rfl (by decide) (io_e_111 _) rfl hl.1 (Nat.le_of_ble_eq_true rfl) dX10_remove_47 ⟨Nat.le_refl _, Nat.le_refl _⟩) (fun r4 s5 H locs hw Z => ?_)
      obtain ⟨b6, hw⟩ := hw
      refine lv_if_eq (tgt := 62) B.1 B.2.1 dX10_remove_50 (by decide) (fun k7 => ?_) (fun k7 => ?_)
      · have hw := hw.1 k7
        refine lv_aload_n B.1 B.2.1 dX10_remove_62 rfl (lv_at hl 1 rfl) ?_
        refine io_g_10_0 B Z dX10_remove_63 ?_
        refine lv_iload_n B.1 B.2.1 dX10_remove_66 rfl (lv_at hl 0 rfl) ?_
        refine lv_iconst (v := 0) B.1 B.2.1 dX10_remove_67 (by decide) ?_
        refine io_zast B Z 112 (by decide) io_e_112 hw.1 dX10_remove_68 (fun s8 H locs e9 Z => ?_)
        have hw := hw.2 s8 e9
        refine lv_aload_n B.1 B.2.1 dX10_remove_69 rfl (lv_at hl 1 rfl) ?_
        refine io_g_10_1 B Z dX10_remove_70 ?_
        refine lv_iload_n B.1 B.2.1 dX10_remove_73 rfl (lv_at hl 0 rfl) ?_
        refine lv_iconst (v := 0) B.1 B.2.1 dX10_remove_74 (by decide) ?_
        refine io_iast B Z 113 (by decide) io_e_113 hw.1 dX10_remove_75 (fun s10 H locs e11 Z => ?_)
        have hw := hw.2 s10 e11
        refine lv_aload_n B.1 B.2.1 dX10_remove_76 rfl (lv_at hl 1 rfl) ?_
        refine lv_iload_n B.1 B.2.1 dX10_remove_77 rfl (lv_at hl 2 rfl) ?_
        refine io_call_v Z (io_runV (ci := 10) (k := 111) [.int p1] [] B Z (io_c_X10_note l D ca ad A _ p1 _ hw) io_k_10_175 (io_hR (by decide) (by decide)) rfl (by decide) (io_e_111 _) rfl hl.1 (Nat.le_of_ble_eq_true rfl) dX10_remove_78 ⟨Nat.le_refl _, Nat.le_refl _⟩) (fun s13 H locs hw Z => ?_)
        refine lv_aload_n B.1 B.2.1 dX10_remove_81 rfl (lv_at hl 1 rfl) ?_
        refine lv_iconst (v := 0) B.1 B.2.1 dX10_remove_82 (by decide) ?_
        refine lv_iconst (v := 0) B.1 B.2.1 dX10_remove_83 (by decide) ?_
        refine io_call_v Z (io_runV (ci := 10) (k := 111) [.int 0, .int 0] [] B Z (io_c_X10_gives l D ca ad A _ 0 0 _ hw) io_k_10_179 (io_hR (by decide) (by decide)) rfl (by decide) (io_e_111 _) rfl hl.1 (Nat.le_of_ble_eq_true rfl) dX10_remove_84 ⟨Nat.le_refl _, Nat.le_refl _⟩) (fun s15 H locs hw Z => ?_)
        exact io_ret_v B Z hr hlk hw dX10_remove_87
      · have hw := hw.2 k7
        refine lv_aload_n B.1 B.2.1 dX10_remove_53 rfl (lv_at hl 1 rfl) ?_
        refine lv_iload_n B.1 B.2.1 dX10_remove_54 rfl (lv_at hl 2 rfl) ?_
        refine lv_iconst (v := 0) B.1 B.2.1 dX10_remove_55 (by decide) ?_
        refine io_call_v Z (io_runV (ci := 10) (k := 111) [.int p1, .int 0] [] B Z (io_c_X10_fails l D ca ad A _ p1 0 _ hw) io_k_10_171 (io_hR (by decide) (by decide)) rfl (by decide) (io_e_111 _) rfl hl.1 (Nat.le_of_ble_eq_true rfl) dX10_remove_56 ⟨Nat.le_refl _, Nat.le_refl _⟩) (fun s17 H locs hw Z => ?_)
        refine lv_goto (tgt := 87) B.1 B.2.1 dX10_remove_59 (by decide) ?_
        exact io_ret_v B Z hr hlk hw dX10_remove_87
    · have hw := hw.1 k3
      refine lv_aload_n B.1 B.2.1 dX10_remove_36 rfl (lv_at hl 1 rfl) ?_
      refine lv_iload_n B.1 B.2.1 dX10_remove_37 rfl (lv_at hl 2 rfl) ?_
      refine lv_iconst (v := 2) B.1 B.2.1 dX10_remove_38 (by decide) ?_
      refine io_call_v Z (io_runV (ci := 10) (k := 111) [.int p1, .int 2] [] B Z (io_c_X10_fails l D ca ad A _ p1 2 _ hw) io_k_10_171 (io_hR (by decide) (by decide)) rfl (by decide) (io_e_111 _) rfl hl.1 (Nat.le_of_ble_eq_true rfl) dX10_remove_39 ⟨Nat.le_refl _, Nat.le_refl _⟩) (fun s19 H locs hw Z => ?_)
      refine lv_goto (tgt := 87) B.1 B.2.1 dX10_remove_42 (by decide) ?_
      exact io_ret_v B Z hr hlk hw dX10_remove_87
  · have hw := hw.1 k2
    refine lv_aload_n B.1 B.2.1 dX10_remove_16 rfl (lv_at hl 1 rfl) ?_
    refine lv_iload_n B.1 B.2.1 dX10_remove_17 rfl (lv_at hl 2 rfl) ?_
    refine lv_iconst (v := 1) B.1 B.2.1 dX10_remove_18 (by decide) ?_
    refine io_call_v Z (io_runV (ci := 10) (k := 111) [.int p1, .int 1] [] B Z (io_c_X10_fails l D ca ad A _ p1 1 _ hw) io_k_10_171 (io_hR (by decide) (by decide)) rfl (by decide) (io_e_111 _) rfl hl.1 (Nat.le_of_ble_eq_true rfl) dX10_remove_19 ⟨Nat.le_refl _, Nat.le_refl _⟩) (fun s21 H locs hw Z => ?_)
    refine lv_goto (tgt := 87) B.1 B.2.1 dX10_remove_22 (by decide) ?_
    exact io_ret_v B Z hr hlk hw dX10_remove_87
def wl_X10_rename_96 : Nat → io_M → Int32 → Int32 → Int32 → Int32 → (io_M → Prop) → Prop
  | 0, _, _, _, _, _, _ => False
  | n + 1, σ, x1, x2, x3, x4, post => (vp_in x2 8 ∧ (((σ 113 (x2).toNatClampNeg) ≤ x4 → (vp_in x2 8 ∧ (vp_in x3 8 ∧ ∀ s102, s102 = io_up σ 113 (x3).toNatClampNeg ((σ 113 (x2).toNatClampNeg)) → (vp_in x3 8 ∧ ∀ s104, s104 = io_up s102 112 (x3).toNatClampNeg ((vp_nar .boolean 1)) → (vp_in x2 8 ∧ ∀ s106, s106 = io_up s104 113 (x2).toNatClampNeg (0) → (vp_in x2 8 ∧ ∀ s108, s108 = io_up s106 112 (x2).toNatClampNeg ((vp_nar .boolean 0)) → (wp_X10_note s108 x1 (fun s111 => (wp_X10_gives s111 0 0 (fun s113 => post s113)))))))))) ∧ (¬ ((σ 113 (x2).toNatClampNeg) ≤ x4) → (vp_in ((40 * x2) + x4) 320 ∧ (vp_in ((40 * x3) + x4) 320 ∧ ∀ s114, s114 = io_up σ 114 (((40 * x3) + x4)).toNatClampNeg (((σ 114 (((40 * x2) + x4)).toNatClampNeg)).toInt8.toInt32) → wl_X10_rename_96 n s114 x1 x2 x3 (x4 + 1) post)))))
def wp_X10_rename (σ : io_M) (p1 : Int32) (post : io_M → Prop) : Prop := (vp_in p1 60 ∧ (vp_in p1 60 ∧ (vp_in (σ 119 (p1).toNatClampNeg) 8 ∧ (((σ 112 ((σ 119 (p1).toNatClampNeg)).toNatClampNeg) = 0 → (wp_X10_fails σ p1 1 (fun s25 => post s25))) ∧ (¬ ((σ 112 ((σ 119 (p1).toNatClampNeg)).toNatClampNeg) = 0) → (vp_in (σ 119 (p1).toNatClampNeg) 8 ∧ ((((σ 115 ((σ 119 (p1).toNatClampNeg)).toNatClampNeg) &&& 2) = 0 → (wp_X10_fails σ p1 2 (fun s5 => post s5))) ∧ (¬ (((σ 115 ((σ 119 (p1).toNatClampNeg)).toNatClampNeg) &&& 2) = 0) → (vp_in (σ 120 (p1).toNatClampNeg) 8 ∧ ((((σ 115 ((σ 120 (p1).toNatClampNeg)).toNatClampNeg) &&& 2) = 0 → (wp_X10_fails σ p1 2 (fun s23 => post s23))) ∧ (¬ (((σ 115 ((σ 120 (p1).toNatClampNeg)).toNatClampNeg) &&& 2) = 0) → (wp_X10_isHeld σ (σ 119 (p1).toNatClampNeg) (fun r7 s8 => ((r7 = 0 → (wp_X10_isHeld s8 (σ 120 (p1).toNatClampNeg) (fun r13 s14 => ((r13 = 0 → (((σ 119 (p1).toNatClampNeg) = (σ 120 (p1).toNatClampNeg) → (wp_X10_gives s14 0 0 (fun s19 => post s19))) ∧ (¬ ((σ 119 (p1).toNatClampNeg) = (σ 120 (p1).toNatClampNeg)) → (∃ n, wl_X10_rename_96 n s14 p1 (σ 119 (p1).toNatClampNeg) (σ 120 (p1).toNatClampNeg) 0 post)))) ∧ (¬ (r13 = 0) → (wp_X10_fails s14 p1 0 (fun s21 => post s21))))))) ∧ (¬ (r7 = 0) → (wp_X10_fails s8 p1 0 (fun s12 => post s12)))))))))))))))))
set_option maxHeartbeats 4000000 in
set_option maxRecDepth 100000 in
theorem io_c_X10_rename (l : Launch) (D : va_G) (ca : Nat → ClassId) (ad : Nat → Nat) (A : Nat → Prop) (σ : io_M) (p1 : Int32) (post : io_M → Prop) (hw : wp_X10_rename σ p1 post) : Met l yX10_rename (.code yX10_rename cX10_rename 5 none :: io_tb) (io_rm 1) (va_Pc [.ref (ad 111), .int p1] (io_W D ca ad A σ)) (va_Qv post (io_W D ca ad A) A) 0 0 A := by
  refine Met.ofW (cc := cX10_rename) (maxL := 5) (ret := none) (by decide) rfl ?_
  intro p e s m args below meth c s₁ Bd hml hv
  obtain ⟨rfl, hW0⟩ := hv
  have Z := io_Z.start hW0
  have B : CallFix p m c cX10_rename 5 s _ io_tb RX10 := ⟨Bd.exec, Bd.bytes, hml, findClass_of_methodNamed Bd.named, fun w hw => atoms_spec (ws := (.code yX10_rename cX10_rename 5 none :: io_tb)) Bd.pre w (List.mem_cons_of_mem _ hw)⟩
  have hr := Bd.returns
  have hlk := Bd.notSynchronized
  have hl := lv_entry ([.ref (ad 111), .int p1]) (n := 5) (Nat.le_of_ble_eq_true rfl)
  rw [lg_entry_eq]
  generalize (lg_sl ([.ref (ad 111), .int p1]) ++ List.replicate (5 - (lg_sl ([.ref (ad 111), .int p1])).length) Slot.unset).toArray = ls at hl ⊢
  have hl : lv_has ls 5 [(0, .ref (ad 111)), (1, .int p1)] := hl
  show W p l e (io_rm 1) s m _ below meth c s.heap [] 0 0 _ (F0 m 0 ls [])
  have LP96 : ∀ (n : Nat) (σ : io_M) (x1 : Int32) (x2 : Int32) (x3 : Int32) (x4 : Int32), wl_X10_rename_96 n σ x1 x2 x3 x4 post → ∀ (H : Heap) (locs : List Loc), io_Z D ca ad A s H locs σ → ∀ ls : Array Slot, lv_has ls 5 [(0, .ref (ad 111)), (1, .int x1), (2, .int x2), (3, .int x3), (4, .int x4)] → W p l e (io_rm 1) s m ([.ref (ad 111), .int p1] : List Value).toArray below meth c H locs 0 0 (MQ below (va_Qv post (io_W D ca ad A) A) ([.ref (ad 111), .int p1] : List Value).toArray s 0 0 A) (F0 m 96 ls []) := by
    intro n
    induction n with
    | zero =>
      intro σ x1 x2 x3 x4 hw
      exact hw.elim
    | succ n IH96 =>
      intro σ x1 x2 x3 x4 hw H locs Z ls hl
      unfold wl_X10_rename_96 at hw
      refine lv_iload B.1 B.2.1 dX10_rename_96 (lv_at hl 4 rfl) ?_
      refine lv_aload_n B.1 B.2.1 dX10_rename_98 rfl (lv_at hl 0 rfl) ?_
      refine io_g_10_1 B Z dX10_rename_99 ?_
      refine lv_iload_n B.1 B.2.1 dX10_rename_102 rfl (lv_at hl 2 rfl) ?_
      refine io_iald B Z 113 (by decide) io_e_113 hw.1 dX10_rename_103 ?_
      have hw := hw.2
      refine lv_icmp_ge (tgt := 137) B.1 B.2.1 dX10_rename_104 (by decide) (fun k101 => ?_) (fun k101 => ?_)
      · have hw := hw.1 k101
        refine lv_aload_n B.1 B.2.1 dX10_rename_137 rfl (lv_at hl 0 rfl) ?_
        refine io_g_10_1 B Z dX10_rename_138 ?_
        refine lv_iload_n B.1 B.2.1 dX10_rename_141 rfl (lv_at hl 3 rfl) ?_
        refine lv_aload_n B.1 B.2.1 dX10_rename_142 rfl (lv_at hl 0 rfl) ?_
        refine io_g_10_1 B Z dX10_rename_143 ?_
        refine lv_iload_n B.1 B.2.1 dX10_rename_146 rfl (lv_at hl 2 rfl) ?_
        refine io_iald B Z 113 (by decide) io_e_113 hw.1 dX10_rename_147 ?_
        have hw := hw.2
        refine io_iast B Z 113 (by decide) io_e_113 hw.1 dX10_rename_148 (fun s102 H locs e103 Z => ?_)
        have hw := hw.2 s102 e103
        refine lv_aload_n B.1 B.2.1 dX10_rename_149 rfl (lv_at hl 0 rfl) ?_
        refine io_g_10_0 B Z dX10_rename_150 ?_
        refine lv_iload_n B.1 B.2.1 dX10_rename_153 rfl (lv_at hl 3 rfl) ?_
        refine lv_iconst (v := 1) B.1 B.2.1 dX10_rename_154 (by decide) ?_
        refine io_zast B Z 112 (by decide) io_e_112 hw.1 dX10_rename_155 (fun s104 H locs e105 Z => ?_)
        have hw := hw.2 s104 e105
        refine lv_aload_n B.1 B.2.1 dX10_rename_156 rfl (lv_at hl 0 rfl) ?_
        refine io_g_10_1 B Z dX10_rename_157 ?_
        refine lv_iload_n B.1 B.2.1 dX10_rename_160 rfl (lv_at hl 2 rfl) ?_
        refine lv_iconst (v := 0) B.1 B.2.1 dX10_rename_161 (by decide) ?_
        refine io_iast B Z 113 (by decide) io_e_113 hw.1 dX10_rename_162 (fun s106 H locs e107 Z => ?_)
        have hw := hw.2 s106 e107
        refine lv_aload_n B.1 B.2.1 dX10_rename_163 rfl (lv_at hl 0 rfl) ?_
        refine io_g_10_0 B Z dX10_rename_164 ?_
        refine lv_iload_n B.1 B.2.1 dX10_rename_167 rfl (lv_at hl 2 rfl) ?_
        refine lv_iconst (v := 0) B.1 B.2.1 dX10_rename_168 (by decide) ?_
        refine io_zast B Z 112 (by decide) io_e_112 hw.1 dX10_rename_169 (fun s108 H locs e109 Z => ?_)
        have hw := hw.2 s108 e109
        refine lv_aload_n B.1 B.2.1 dX10_rename_170 rfl (lv_at hl 0 rfl) ?_
        refine lv_iload_n B.1 B.2.1 dX10_rename_171 rfl (lv_at hl 1 rfl) ?_
        refine io_call_v Z (io_runV (ci := 10) (k := 111) [.int x1] [] B Z (io_c_X10_note l D ca ad A _ x1 _ hw) io_k_10_175 (io_hR (by decide) (by decide)) rfl (by decide) (io_e_111 _) rfl hl.1 (Nat.le_of_ble_eq_true rfl) dX10_rename_172 ⟨Nat.le_refl _, Nat.le_refl _⟩) (fun s111 H locs hw Z => ?_)
        refine lv_aload_n B.1 B.2.1 dX10_rename_175 rfl (lv_at hl 0 rfl) ?_
        refine lv_iconst (v := 0) B.1 B.2.1 dX10_rename_176 (by decide) ?_
        refine lv_iconst (v := 0) B.1 B.2.1 dX10_rename_177 (by decide) ?_
        refine io_call_v Z (io_runV (ci := 10) (k := 111) [.int 0, .int 0] [] B Z (io_c_X10_gives l D ca ad A _ 0 0 _ hw) io_k_10_179 (io_hR (by decide) (by decide)) rfl (by decide) (io_e_111 _) rfl hl.1 (Nat.le_of_ble_eq_true rfl) dX10_rename_178 ⟨Nat.le_refl _, Nat.le_refl _⟩) (fun s113 H locs hw Z => ?_)
        exact io_ret_v B Z hr hlk hw dX10_rename_181
      · have hw := hw.2 k101
        refine lv_aload_n B.1 B.2.1 dX10_rename_107 rfl (lv_at hl 0 rfl) ?_
        refine io_g_10_2 B Z dX10_rename_108 ?_
        refine lv_bipush (v := 40) B.1 B.2.1 dX10_rename_111 (by decide) ?_
        refine lv_iload_n B.1 B.2.1 dX10_rename_113 rfl (lv_at hl 3 rfl) ?_
        refine lv_imul B.1 B.2.1 dX10_rename_114 ?_
        refine lv_iload B.1 B.2.1 dX10_rename_115 (lv_at hl 4 rfl) ?_
        refine lv_iadd B.1 B.2.1 dX10_rename_117 ?_
        refine lv_aload_n B.1 B.2.1 dX10_rename_118 rfl (lv_at hl 0 rfl) ?_
        refine io_g_10_2 B Z dX10_rename_119 ?_
        refine lv_bipush (v := 40) B.1 B.2.1 dX10_rename_122 (by decide) ?_
        refine lv_iload_n B.1 B.2.1 dX10_rename_124 rfl (lv_at hl 2 rfl) ?_
        refine lv_imul B.1 B.2.1 dX10_rename_125 ?_
        refine lv_iload B.1 B.2.1 dX10_rename_126 (lv_at hl 4 rfl) ?_
        refine lv_iadd B.1 B.2.1 dX10_rename_128 ?_
        refine io_bald B Z 114 (by decide) io_e_114 hw.1 dX10_rename_129 ?_
        have hw := hw.2
        refine io_bast B Z 114 (by decide) io_e_114 hw.1 dX10_rename_130 (fun s114 H locs e115 Z => ?_)
        have hw := hw.2 s114 e115
        refine lv_iinc (v := (x4 + 1)) (lv' := [(4, .int (x4 + 1)), (0, .ref (ad 111)), (1, .int x1), (2, .int x2), (3, .int x3)]) B.1 B.2.1 dX10_rename_131 hl (k := 4) rfl rfl (by decide) rfl (fun ls hl => ?_)
        refine lv_goto (tgt := 96) B.1 B.2.1 dX10_rename_134 (by decide) ?_
        exact IH96 _ x1 x2 x3 (x4 + 1) hw _ _ Z _ (lv_sub (l' := [(0, .ref (ad 111)), (1, .int x1), (2, .int x2), (3, .int x3), (4, .int (x4 + 1))]) hl [1, 2, 3, 4, 0] rfl)
  unfold wp_X10_rename at hw
  refine lv_aload_n B.1 B.2.1 dX10_rename_0 rfl (lv_at hl 0 rfl) ?_
  refine io_g_10_11 B Z dX10_rename_1 ?_
  refine lv_iload_n B.1 B.2.1 dX10_rename_4 rfl (lv_at hl 1 rfl) ?_
  refine io_iald B Z 119 (by decide) io_e_119 hw.1 dX10_rename_5 ?_
  have hw := hw.2
  refine lv_istore_n (lv' := [(2, .int (σ 119 (p1).toNatClampNeg)), (0, .ref (ad 111)), (1, .int p1)]) B.1 B.2.1 dX10_rename_6 rfl hl (by decide) rfl (fun ls hl => ?_)
  refine lv_aload_n B.1 B.2.1 dX10_rename_7 rfl (lv_at hl 1 rfl) ?_
  refine io_g_10_12 B Z dX10_rename_8 ?_
  refine lv_iload_n B.1 B.2.1 dX10_rename_11 rfl (lv_at hl 2 rfl) ?_
  refine io_iald B Z 120 (by decide) io_e_120 hw.1 dX10_rename_12 ?_
  have hw := hw.2
  refine lv_istore_n (lv' := [(3, .int (σ 120 (p1).toNatClampNeg)), (2, .int (σ 119 (p1).toNatClampNeg)), (0, .ref (ad 111)), (1, .int p1)]) B.1 B.2.1 dX10_rename_13 rfl hl (by decide) rfl (fun ls hl => ?_)
  refine lv_aload_n B.1 B.2.1 dX10_rename_14 rfl (lv_at hl 2 rfl) ?_
  refine io_g_10_0 B Z dX10_rename_15 ?_
  refine lv_iload_n B.1 B.2.1 dX10_rename_18 rfl (lv_at hl 1 rfl) ?_
  refine io_zald B Z 112 (by decide) io_e_112 hw.1 dX10_rename_19 ?_
  have hw := hw.2
  refine lv_if_ne (tgt := 32) B.1 B.2.1 dX10_rename_20 (by decide) (fun k2 => ?_) (fun k2 => ?_)
  · have hw := hw.2 k2
    refine lv_aload_n B.1 B.2.1 dX10_rename_32 rfl (lv_at hl 2 rfl) ?_
    refine io_g_10_3 B Z dX10_rename_33 ?_
    refine lv_iload_n B.1 B.2.1 dX10_rename_36 rfl (lv_at hl 1 rfl) ?_
    refine io_iald B Z 115 (by decide) io_e_115 hw.1 dX10_rename_37 ?_
    have hw := hw.2
    refine lv_iconst (v := 2) B.1 B.2.1 dX10_rename_38 (by decide) ?_
    refine lv_iand B.1 B.2.1 dX10_rename_39 ?_
    refine lv_if_eq (tgt := 54) B.1 B.2.1 dX10_rename_40 (by decide) (fun k3 => ?_) (fun k3 => ?_)
    · have hw := hw.1 k3
      refine lv_aload_n B.1 B.2.1 dX10_rename_54 rfl (lv_at hl 2 rfl) ?_
      refine lv_iload_n B.1 B.2.1 dX10_rename_55 rfl (lv_at hl 3 rfl) ?_
      refine lv_iconst (v := 2) B.1 B.2.1 dX10_rename_56 (by decide) ?_
      refine io_call_v Z (io_runV (ci := 10) (k := 111) [.int p1, .int 2] [] B Z (io_c_X10_fails l D ca ad A _ p1 2 _ hw) io_k_10_171 (io_hR (by decide) (by decide)) rfl (by decide) (io_e_111 _) rfl hl.1 (Nat.le_of_ble_eq_true rfl) dX10_rename_57 ⟨Nat.le_refl _, Nat.le_refl _⟩) (fun s5 H locs hw Z => ?_)
      refine lv_goto (tgt := 181) B.1 B.2.1 dX10_rename_60 (by decide) ?_
      exact io_ret_v B Z hr hlk hw dX10_rename_181
    · have hw := hw.2 k3
      refine lv_aload_n B.1 B.2.1 dX10_rename_43 rfl (lv_at hl 2 rfl) ?_
      refine io_g_10_3 B Z dX10_rename_44 ?_
      refine lv_iload_n B.1 B.2.1 dX10_rename_47 rfl (lv_at hl 0 rfl) ?_
      refine io_iald B Z 115 (by decide) io_e_115 hw.1 dX10_rename_48 ?_
      have hw := hw.2
      refine lv_iconst (v := 2) B.1 B.2.1 dX10_rename_49 (by decide) ?_
      refine lv_iand B.1 B.2.1 dX10_rename_50 ?_
      refine lv_if_ne (tgt := 63) B.1 B.2.1 dX10_rename_51 (by decide) (fun k6 => ?_) (fun k6 => ?_)
      · have hw := hw.2 k6
        refine lv_aload_n B.1 B.2.1 dX10_rename_63 rfl (lv_at hl 2 rfl) ?_
        refine lv_iload_n B.1 B.2.1 dX10_rename_64 rfl (lv_at hl 1 rfl) ?_
        refine io_call_i Z (io_runV (ci := 10) (k := 111) [.int (σ 119 (p1).toNatClampNeg)] [] B Z (io_c_X10_isHeld l D ca ad A _ (σ 119 (p1).toNatClampNeg) _ hw) io_k_10_164 (io_hR (by decide) (by decide)) rfl (by decide) (io_e_111 _) rfl hl.1 (Nat.le_of_ble_eq_true rfl) dX10_rename_65 ⟨Nat.le_refl _, Nat.le_refl _⟩) (fun r7 s8 H locs hw Z => ?_)
        obtain ⟨b9, hw⟩ := hw
        refine lv_if_ne (tgt := 79) B.1 B.2.1 dX10_rename_68 (by decide) (fun k10 => ?_) (fun k10 => ?_)
        · have hw := hw.2 k10
          refine lv_aload_n B.1 B.2.1 dX10_rename_79 rfl (lv_at hl 2 rfl) ?_
          refine lv_iload_n B.1 B.2.1 dX10_rename_80 rfl (lv_at hl 3 rfl) ?_
          refine lv_iconst (v := 0) B.1 B.2.1 dX10_rename_81 (by decide) ?_
          refine io_call_v Z (io_runV (ci := 10) (k := 111) [.int p1, .int 0] [] B Z (io_c_X10_fails l D ca ad A _ p1 0 _ hw) io_k_10_171 (io_hR (by decide) (by decide)) rfl (by decide) (io_e_111 _) rfl hl.1 (Nat.le_of_ble_eq_true rfl) dX10_rename_82 ⟨Nat.le_refl _, Nat.le_refl _⟩) (fun s12 H locs hw Z => ?_)
          refine lv_goto (tgt := 181) B.1 B.2.1 dX10_rename_85 (by decide) ?_
          exact io_ret_v B Z hr hlk hw dX10_rename_181
        · have hw := hw.1 k10
          refine lv_aload_n B.1 B.2.1 dX10_rename_71 rfl (lv_at hl 2 rfl) ?_
          refine lv_iload_n B.1 B.2.1 dX10_rename_72 rfl (lv_at hl 0 rfl) ?_
          refine io_call_i Z (io_runV (ci := 10) (k := 111) [.int (σ 120 (p1).toNatClampNeg)] [] B Z (io_c_X10_isHeld l D ca ad A _ (σ 120 (p1).toNatClampNeg) _ hw) io_k_10_164 (io_hR (by decide) (by decide)) rfl (by decide) (io_e_111 _) rfl hl.1 (Nat.le_of_ble_eq_true rfl) dX10_rename_73 ⟨Nat.le_refl _, Nat.le_refl _⟩) (fun r13 s14 H locs hw Z => ?_)
          obtain ⟨b15, hw⟩ := hw
          refine lv_if_eq (tgt := 88) B.1 B.2.1 dX10_rename_76 (by decide) (fun k16 => ?_) (fun k16 => ?_)
          · have hw := hw.1 k16
            refine lv_iload_n B.1 B.2.1 dX10_rename_88 rfl (lv_at hl 1 rfl) ?_
            refine lv_iload_n B.1 B.2.1 dX10_rename_89 rfl (lv_at hl 0 rfl) ?_
            refine lv_icmp_eq (tgt := 175) B.1 B.2.1 dX10_rename_90 (by decide) (fun k17 => ?_) (fun k17 => ?_)
            · have hw := hw.1 k17
              refine lv_aload_n B.1 B.2.1 dX10_rename_175 rfl (lv_at hl 2 rfl) ?_
              refine lv_iconst (v := 0) B.1 B.2.1 dX10_rename_176 (by decide) ?_
              refine lv_iconst (v := 0) B.1 B.2.1 dX10_rename_177 (by decide) ?_
              refine io_call_v Z (io_runV (ci := 10) (k := 111) [.int 0, .int 0] [] B Z (io_c_X10_gives l D ca ad A _ 0 0 _ hw) io_k_10_179 (io_hR (by decide) (by decide)) rfl (by decide) (io_e_111 _) rfl hl.1 (Nat.le_of_ble_eq_true rfl) dX10_rename_178 ⟨Nat.le_refl _, Nat.le_refl _⟩) (fun s19 H locs hw Z => ?_)
              exact io_ret_v B Z hr hlk hw dX10_rename_181
            · have hw := hw.2 k17
              refine lv_iconst (v := 0) B.1 B.2.1 dX10_rename_93 (by decide) ?_
              refine lv_istore (lv' := [(4, .int 0), (3, .int (σ 120 (p1).toNatClampNeg)), (2, .int (σ 119 (p1).toNatClampNeg)), (0, .ref (ad 111)), (1, .int p1)]) B.1 B.2.1 dX10_rename_94 hl (by decide) rfl (fun ls hl => ?_)
              obtain ⟨n, hw⟩ := hw
              exact LP96 n _ p1 (σ 119 (p1).toNatClampNeg) (σ 120 (p1).toNatClampNeg) 0 hw _ _ Z _ (lv_sub (l' := [(0, .ref (ad 111)), (1, .int p1), (2, .int (σ 119 (p1).toNatClampNeg)), (3, .int (σ 120 (p1).toNatClampNeg)), (4, .int 0)]) hl [3, 4, 2, 1, 0] rfl)
          · have hw := hw.2 k16
            refine lv_aload_n B.1 B.2.1 dX10_rename_79 rfl (lv_at hl 2 rfl) ?_
            refine lv_iload_n B.1 B.2.1 dX10_rename_80 rfl (lv_at hl 3 rfl) ?_
            refine lv_iconst (v := 0) B.1 B.2.1 dX10_rename_81 (by decide) ?_
            refine io_call_v Z (io_runV (ci := 10) (k := 111) [.int p1, .int 0] [] B Z (io_c_X10_fails l D ca ad A _ p1 0 _ hw) io_k_10_171 (io_hR (by decide) (by decide)) rfl (by decide) (io_e_111 _) rfl hl.1 (Nat.le_of_ble_eq_true rfl) dX10_rename_82 ⟨Nat.le_refl _, Nat.le_refl _⟩) (fun s21 H locs hw Z => ?_)
            refine lv_goto (tgt := 181) B.1 B.2.1 dX10_rename_85 (by decide) ?_
            exact io_ret_v B Z hr hlk hw dX10_rename_181
      · have hw := hw.1 k6
        refine lv_aload_n B.1 B.2.1 dX10_rename_54 rfl (lv_at hl 2 rfl) ?_
        refine lv_iload_n B.1 B.2.1 dX10_rename_55 rfl (lv_at hl 3 rfl) ?_
        refine lv_iconst (v := 2) B.1 B.2.1 dX10_rename_56 (by decide) ?_
        refine io_call_v Z (io_runV (ci := 10) (k := 111) [.int p1, .int 2] [] B Z (io_c_X10_fails l D ca ad A _ p1 2 _ hw) io_k_10_171 (io_hR (by decide) (by decide)) rfl (by decide) (io_e_111 _) rfl hl.1 (Nat.le_of_ble_eq_true rfl) dX10_rename_57 ⟨Nat.le_refl _, Nat.le_refl _⟩) (fun s23 H locs hw Z => ?_)
        refine lv_goto (tgt := 181) B.1 B.2.1 dX10_rename_60 (by decide) ?_
        exact io_ret_v B Z hr hlk hw dX10_rename_181
  · have hw := hw.1 k2
    refine lv_aload_n B.1 B.2.1 dX10_rename_23 rfl (lv_at hl 2 rfl) ?_
    refine lv_iload_n B.1 B.2.1 dX10_rename_24 rfl (lv_at hl 3 rfl) ?_
    refine lv_iconst (v := 1) B.1 B.2.1 dX10_rename_25 (by decide) ?_
    refine io_call_v Z (io_runV (ci := 10) (k := 111) [.int p1, .int 1] [] B Z (io_c_X10_fails l D ca ad A _ p1 1 _ hw) io_k_10_171 (io_hR (by decide) (by decide)) rfl (by decide) (io_e_111 _) rfl hl.1 (Nat.le_of_ble_eq_true rfl) dX10_rename_26 ⟨Nat.le_refl _, Nat.le_refl _⟩) (fun s25 H locs hw Z => ?_)
    refine lv_goto (tgt := 181) B.1 B.2.1 dX10_rename_29 (by decide) ?_
    exact io_ret_v B Z hr hlk hw dX10_rename_181
def wp_X10_begin (σ : io_M) (p1 : Int32) (post : io_M → Prop) : Prop := (((σ 111 35) = 600 → (∀ s13, s13 = io_up σ 111 48 3 → post s13)) ∧ (¬ ((σ 111 35) = 600) → (∀ s3, s3 = io_up σ 111 35 ((σ 111 35) + 1) → (vp_in (s3 111 38) 64 ∧ ∀ s5, s5 = io_up s3 140 ((s3 111 38)).toNatClampNeg (p1) → (vp_in (s5 111 38) 64 ∧ ∀ s7, s7 = io_up s5 141 ((s5 111 38)).toNatClampNeg (0) → (vp_in (s7 111 38) 64 ∧ ∀ s9, s9 = io_up s7 144 ((s7 111 38)).toNatClampNeg (0) → (∀ s11, s11 = io_up s9 111 38 ((s9 111 38) + 1) → post s11)))))))
set_option maxHeartbeats 4000000 in
set_option maxRecDepth 100000 in
theorem io_c_X10_begin (l : Launch) (D : va_G) (ca : Nat → ClassId) (ad : Nat → Nat) (A : Nat → Prop) (σ : io_M) (p1 : Int32) (post : io_M → Prop) (hw : wp_X10_begin σ p1 post) : Met l yX10_begin (.code yX10_begin cX10_begin 2 none :: io_tb) (io_rm 0) (va_Pc [.ref (ad 111), .int p1] (io_W D ca ad A σ)) (va_Qv post (io_W D ca ad A) A) 0 0 A := by
  refine Met.ofW (cc := cX10_begin) (maxL := 2) (ret := none) (by decide) rfl ?_
  intro p e s m args below meth c s₁ Bd hml hv
  obtain ⟨rfl, hW0⟩ := hv
  have Z := io_Z.start hW0
  have B : CallFix p m c cX10_begin 2 s _ io_tb RX10 := ⟨Bd.exec, Bd.bytes, hml, findClass_of_methodNamed Bd.named, fun w hw => atoms_spec (ws := (.code yX10_begin cX10_begin 2 none :: io_tb)) Bd.pre w (List.mem_cons_of_mem _ hw)⟩
  have hr := Bd.returns
  have hlk := Bd.notSynchronized
  have hl := lv_entry ([.ref (ad 111), .int p1]) (n := 2) (Nat.le_of_ble_eq_true rfl)
  rw [lg_entry_eq]
  generalize (lg_sl ([.ref (ad 111), .int p1]) ++ List.replicate (2 - (lg_sl ([.ref (ad 111), .int p1])).length) Slot.unset).toArray = ls at hl ⊢
  have hl : lv_has ls 2 [(0, .ref (ad 111)), (1, .int p1)] := hl
  show W p l e (io_rm 0) s m _ below meth c s.heap [] 0 0 _ (F0 m 0 ls [])
  unfold wp_X10_begin at hw
  refine lv_aload_n B.1 B.2.1 dX10_begin_0 rfl (lv_at hl 0 rfl) ?_
  refine io_g_10_35 B Z dX10_begin_1 ?_
  refine lv_sipush (v := 600) B.1 B.2.1 dX10_begin_4 (by decide) ?_
  refine lv_icmp_ne (tgt := 16) B.1 B.2.1 dX10_begin_7 (by decide) (fun k2 => ?_) (fun k2 => ?_)
  · have hw := hw.2 k2
    refine lv_aload_n B.1 B.2.1 dX10_begin_16 rfl (lv_at hl 0 rfl) ?_
    refine lv_dup B.1 B.2.1 dX10_begin_17 rfl ?_
    refine io_g_10_35 B Z dX10_begin_18 ?_
    refine lv_iconst (v := 1) B.1 B.2.1 dX10_begin_21 (by decide) ?_
    refine lv_iadd B.1 B.2.1 dX10_begin_22 ?_
    refine io_p_10_35 B Z dX10_begin_23 (fun s3 H locs e4 Z => ?_)
    have hw := hw s3 e4
    refine lv_aload_n B.1 B.2.1 dX10_begin_26 rfl (lv_at hl 0 rfl) ?_
    refine io_g_10_39 B Z dX10_begin_27 ?_
    refine lv_aload_n B.1 B.2.1 dX10_begin_30 rfl (lv_at hl 0 rfl) ?_
    refine io_g_10_38 B Z dX10_begin_31 ?_
    refine lv_iload_n B.1 B.2.1 dX10_begin_34 rfl (lv_at hl 1 rfl) ?_
    refine io_iast B Z 140 (by decide) io_e_140 hw.1 dX10_begin_35 (fun s5 H locs e6 Z => ?_)
    have hw := hw.2 s5 e6
    refine lv_aload_n B.1 B.2.1 dX10_begin_36 rfl (lv_at hl 0 rfl) ?_
    refine io_g_10_40 B Z dX10_begin_37 ?_
    refine lv_aload_n B.1 B.2.1 dX10_begin_40 rfl (lv_at hl 0 rfl) ?_
    refine io_g_10_38 B Z dX10_begin_41 ?_
    refine lv_iconst (v := 0) B.1 B.2.1 dX10_begin_44 (by decide) ?_
    refine io_iast B Z 141 (by decide) io_e_141 hw.1 dX10_begin_45 (fun s7 H locs e8 Z => ?_)
    have hw := hw.2 s7 e8
    refine lv_aload_n B.1 B.2.1 dX10_begin_46 rfl (lv_at hl 0 rfl) ?_
    refine io_g_10_43 B Z dX10_begin_47 ?_
    refine lv_aload_n B.1 B.2.1 dX10_begin_50 rfl (lv_at hl 0 rfl) ?_
    refine io_g_10_38 B Z dX10_begin_51 ?_
    refine lv_iconst (v := 0) B.1 B.2.1 dX10_begin_54 (by decide) ?_
    refine io_iast B Z 144 (by decide) io_e_144 hw.1 dX10_begin_55 (fun s9 H locs e10 Z => ?_)
    have hw := hw.2 s9 e10
    refine lv_aload_n B.1 B.2.1 dX10_begin_56 rfl (lv_at hl 0 rfl) ?_
    refine lv_dup B.1 B.2.1 dX10_begin_57 rfl ?_
    refine io_g_10_38 B Z dX10_begin_58 ?_
    refine lv_iconst (v := 1) B.1 B.2.1 dX10_begin_61 (by decide) ?_
    refine lv_iadd B.1 B.2.1 dX10_begin_62 ?_
    refine io_p_10_38 B Z dX10_begin_63 (fun s11 H locs e12 Z => ?_)
    have hw := hw s11 e12
    exact io_ret_v B Z hr hlk hw dX10_begin_66
  · have hw := hw.1 k2
    refine lv_aload_n B.1 B.2.1 dX10_begin_10 rfl (lv_at hl 0 rfl) ?_
    refine lv_iconst (v := 3) B.1 B.2.1 dX10_begin_11 (by decide) ?_
    refine io_p_10_48 B Z dX10_begin_12 (fun s13 H locs e14 Z => ?_)
    have hw := hw s13 e14
    exact io_ret_v B Z hr hlk hw dX10_begin_15
def wp_X10_isSort (σ : io_M) (p1 : Int32) (p2 : Int32) (post : Int32 → io_M → Prop) : Prop := (((σ 111 46) = p2 → post 1 σ) ∧ (¬ ((σ 111 46) = p2) → (wp_X10_fails σ p1 4 (fun s4 => post 0 s4))))
set_option maxHeartbeats 4000000 in
set_option maxRecDepth 100000 in
theorem io_c_X10_isSort (l : Launch) (D : va_G) (ca : Nat → ClassId) (ad : Nat → Nat) (A : Nat → Prop) (σ : io_M) (p1 : Int32) (p2 : Int32) (post : Int32 → io_M → Prop) (hw : wp_X10_isSort σ p1 p2 post) : Met l yX10_isSort (.code yX10_isSort cX10_isSort 3 (some .boolean) :: io_tb) (io_rm 1) (va_Pc [.ref (ad 111), .int p1, .int p2] (io_W D ca ad A σ)) (va_Qi (fun r u => io_bl r ∧ post r u) (io_W D ca ad A) A) 0 0 A := by
  refine Met.ofW (cc := cX10_isSort) (maxL := 3) (ret := (some .boolean)) (by decide) rfl ?_
  intro p e s m args below meth c s₁ Bd hml hv
  obtain ⟨rfl, hW0⟩ := hv
  have Z := io_Z.start hW0
  have B : CallFix p m c cX10_isSort 3 s _ io_tb RX10 := ⟨Bd.exec, Bd.bytes, hml, findClass_of_methodNamed Bd.named, fun w hw => atoms_spec (ws := (.code yX10_isSort cX10_isSort 3 (some .boolean) :: io_tb)) Bd.pre w (List.mem_cons_of_mem _ hw)⟩
  have hr := Bd.returns
  have hlk := Bd.notSynchronized
  have hl := lv_entry ([.ref (ad 111), .int p1, .int p2]) (n := 3) (Nat.le_of_ble_eq_true rfl)
  rw [lg_entry_eq]
  generalize (lg_sl ([.ref (ad 111), .int p1, .int p2]) ++ List.replicate (3 - (lg_sl ([.ref (ad 111), .int p1, .int p2])).length) Slot.unset).toArray = ls at hl ⊢
  have hl : lv_has ls 3 [(0, .ref (ad 111)), (1, .int p1), (2, .int p2)] := hl
  show W p l e (io_rm 1) s m _ below meth c s.heap [] 0 0 _ (F0 m 0 ls [])
  unfold wp_X10_isSort at hw
  refine lv_aload_n B.1 B.2.1 dX10_isSort_0 rfl (lv_at hl 0 rfl) ?_
  refine io_g_10_46 B Z dX10_isSort_1 ?_
  refine lv_iload_n B.1 B.2.1 dX10_isSort_4 rfl (lv_at hl 2 rfl) ?_
  refine lv_icmp_ne (tgt := 10) B.1 B.2.1 dX10_isSort_5 (by decide) (fun k2 => ?_) (fun k2 => ?_)
  · have hw := hw.2 k2
    refine lv_aload_n B.1 B.2.1 dX10_isSort_10 rfl (lv_at hl 0 rfl) ?_
    refine lv_iload_n B.1 B.2.1 dX10_isSort_11 rfl (lv_at hl 1 rfl) ?_
    refine lv_iconst (v := 4) B.1 B.2.1 dX10_isSort_12 (by decide) ?_
    refine io_call_v Z (io_runV (ci := 10) (k := 111) [.int p1, .int 4] [] B Z (io_c_X10_fails l D ca ad A _ p1 4 _ hw) io_k_10_171 (io_hR (by decide) (by decide)) rfl (by decide) (io_e_111 _) rfl hl.1 (Nat.le_of_ble_eq_true rfl) dX10_isSort_13 ⟨Nat.le_refl _, Nat.le_refl _⟩) (fun s4 H locs hw Z => ?_)
    refine lv_iconst (v := 0) B.1 B.2.1 dX10_isSort_16 (by decide) ?_
    exact io_ret_z B Z hr hlk (Or.inl rfl) hw dX10_isSort_17
  · have hw := hw.1 k2
    refine lv_iconst (v := 1) B.1 B.2.1 dX10_isSort_8 (by decide) ?_
    exact io_ret_z B Z hr hlk (Or.inr rfl) hw dX10_isSort_9
def wp_X10_isOpen (σ : io_M) (p1 : Int32) (p2 : Int32) (post : Int32 → io_M → Prop) : Prop := (vp_in p2 20 ∧ (((σ 127 (p2).toNatClampNeg) = 0 → post 1 σ) ∧ (¬ ((σ 127 (p2).toNatClampNeg) = 0) → (wp_X10_fails σ p1 4 (fun s4 => post 0 s4)))))
set_option maxHeartbeats 4000000 in
set_option maxRecDepth 100000 in
theorem io_c_X10_isOpen (l : Launch) (D : va_G) (ca : Nat → ClassId) (ad : Nat → Nat) (A : Nat → Prop) (σ : io_M) (p1 : Int32) (p2 : Int32) (post : Int32 → io_M → Prop) (hw : wp_X10_isOpen σ p1 p2 post) : Met l yX10_isOpen (.code yX10_isOpen cX10_isOpen 3 (some .boolean) :: io_tb) (io_rm 1) (va_Pc [.ref (ad 111), .int p1, .int p2] (io_W D ca ad A σ)) (va_Qi (fun r u => io_bl r ∧ post r u) (io_W D ca ad A) A) 0 0 A := by
  refine Met.ofW (cc := cX10_isOpen) (maxL := 3) (ret := (some .boolean)) (by decide) rfl ?_
  intro p e s m args below meth c s₁ Bd hml hv
  obtain ⟨rfl, hW0⟩ := hv
  have Z := io_Z.start hW0
  have B : CallFix p m c cX10_isOpen 3 s _ io_tb RX10 := ⟨Bd.exec, Bd.bytes, hml, findClass_of_methodNamed Bd.named, fun w hw => atoms_spec (ws := (.code yX10_isOpen cX10_isOpen 3 (some .boolean) :: io_tb)) Bd.pre w (List.mem_cons_of_mem _ hw)⟩
  have hr := Bd.returns
  have hlk := Bd.notSynchronized
  have hl := lv_entry ([.ref (ad 111), .int p1, .int p2]) (n := 3) (Nat.le_of_ble_eq_true rfl)
  rw [lg_entry_eq]
  generalize (lg_sl ([.ref (ad 111), .int p1, .int p2]) ++ List.replicate (3 - (lg_sl ([.ref (ad 111), .int p1, .int p2])).length) Slot.unset).toArray = ls at hl ⊢
  have hl : lv_has ls 3 [(0, .ref (ad 111)), (1, .int p1), (2, .int p2)] := hl
  show W p l e (io_rm 1) s m _ below meth c s.heap [] 0 0 _ (F0 m 0 ls [])
  unfold wp_X10_isOpen at hw
  refine lv_aload_n B.1 B.2.1 dX10_isOpen_0 rfl (lv_at hl 0 rfl) ?_
  refine io_g_10_20 B Z dX10_isOpen_1 ?_
  refine lv_iload_n B.1 B.2.1 dX10_isOpen_4 rfl (lv_at hl 2 rfl) ?_
  refine io_iald B Z 127 (by decide) io_e_127 hw.1 dX10_isOpen_5 ?_
  have hw := hw.2
  refine lv_if_ne (tgt := 11) B.1 B.2.1 dX10_isOpen_6 (by decide) (fun k2 => ?_) (fun k2 => ?_)
  · have hw := hw.2 k2
    refine lv_aload_n B.1 B.2.1 dX10_isOpen_11 rfl (lv_at hl 0 rfl) ?_
    refine lv_iload_n B.1 B.2.1 dX10_isOpen_12 rfl (lv_at hl 1 rfl) ?_
    refine lv_iconst (v := 4) B.1 B.2.1 dX10_isOpen_13 (by decide) ?_
    refine io_call_v Z (io_runV (ci := 10) (k := 111) [.int p1, .int 4] [] B Z (io_c_X10_fails l D ca ad A _ p1 4 _ hw) io_k_10_171 (io_hR (by decide) (by decide)) rfl (by decide) (io_e_111 _) rfl hl.1 (Nat.le_of_ble_eq_true rfl) dX10_isOpen_14 ⟨Nat.le_refl _, Nat.le_refl _⟩) (fun s4 H locs hw Z => ?_)
    refine lv_iconst (v := 0) B.1 B.2.1 dX10_isOpen_17 (by decide) ?_
    exact io_ret_z B Z hr hlk (Or.inl rfl) hw dX10_isOpen_18
  · have hw := hw.1 k2
    refine lv_iconst (v := 1) B.1 B.2.1 dX10_isOpen_9 (by decide) ?_
    exact io_ret_z B Z hr hlk (Or.inr rfl) hw dX10_isOpen_10
def wp_X10_goOn (σ : io_M) (p1 : Int32) (p2 : Int32) (p3 : Int32) (post : io_M → Prop) : Prop := (vp_in p1 64 ∧ (((σ 144 (p1).toNatClampNeg) = 0 → (wp_X10_gives σ p2 p3 (fun s4 => post s4))) ∧ (¬ ((σ 144 (p1).toNatClampNeg) = 0) → (vp_in p1 64 ∧ (∀ s5, s5 = io_up σ 111 48 (σ 144 (p1).toNatClampNeg) → (vp_in p1 64 ∧ (∀ s7, s7 = io_up s5 111 49 (s5 145 (p1).toNatClampNeg) → (vp_in p1 64 ∧ (∀ s9, s9 = io_up s7 111 50 (s7 146 (p1).toNatClampNeg) → (∀ s11, s11 = io_up s9 111 38 ((s9 111 38) - 1) → post s11))))))))))
set_option maxHeartbeats 4000000 in
set_option maxRecDepth 100000 in
theorem io_c_X10_goOn (l : Launch) (D : va_G) (ca : Nat → ClassId) (ad : Nat → Nat) (A : Nat → Prop) (σ : io_M) (p1 : Int32) (p2 : Int32) (p3 : Int32) (post : io_M → Prop) (hw : wp_X10_goOn σ p1 p2 p3 post) : Met l yX10_goOn (.code yX10_goOn cX10_goOn 4 none :: io_tb) (io_rm 1) (va_Pc [.ref (ad 111), .int p1, .int p2, .int p3] (io_W D ca ad A σ)) (va_Qv post (io_W D ca ad A) A) 0 0 A := by
  refine Met.ofW (cc := cX10_goOn) (maxL := 4) (ret := none) (by decide) rfl ?_
  intro p e s m args below meth c s₁ Bd hml hv
  obtain ⟨rfl, hW0⟩ := hv
  have Z := io_Z.start hW0
  have B : CallFix p m c cX10_goOn 4 s _ io_tb RX10 := ⟨Bd.exec, Bd.bytes, hml, findClass_of_methodNamed Bd.named, fun w hw => atoms_spec (ws := (.code yX10_goOn cX10_goOn 4 none :: io_tb)) Bd.pre w (List.mem_cons_of_mem _ hw)⟩
  have hr := Bd.returns
  have hlk := Bd.notSynchronized
  have hl := lv_entry ([.ref (ad 111), .int p1, .int p2, .int p3]) (n := 4) (Nat.le_of_ble_eq_true rfl)
  rw [lg_entry_eq]
  generalize (lg_sl ([.ref (ad 111), .int p1, .int p2, .int p3]) ++ List.replicate (4 - (lg_sl ([.ref (ad 111), .int p1, .int p2, .int p3])).length) Slot.unset).toArray = ls at hl ⊢
  have hl : lv_has ls 4 [(0, .ref (ad 111)), (1, .int p1), (2, .int p2), (3, .int p3)] := hl
  show W p l e (io_rm 1) s m _ below meth c s.heap [] 0 0 _ (F0 m 0 ls [])
  unfold wp_X10_goOn at hw
  refine lv_aload_n B.1 B.2.1 dX10_goOn_0 rfl (lv_at hl 0 rfl) ?_
  refine io_g_10_43 B Z dX10_goOn_1 ?_
  refine lv_iload_n B.1 B.2.1 dX10_goOn_4 rfl (lv_at hl 1 rfl) ?_
  refine io_iald B Z 144 (by decide) io_e_144 hw.1 dX10_goOn_5 ?_
  have hw := hw.2
  refine lv_if_eq (tgt := 52) B.1 B.2.1 dX10_goOn_6 (by decide) (fun k2 => ?_) (fun k2 => ?_)
  · have hw := hw.1 k2
    refine lv_aload_n B.1 B.2.1 dX10_goOn_52 rfl (lv_at hl 0 rfl) ?_
    refine lv_iload_n B.1 B.2.1 dX10_goOn_53 rfl (lv_at hl 2 rfl) ?_
    refine lv_iload_n B.1 B.2.1 dX10_goOn_54 rfl (lv_at hl 3 rfl) ?_
    refine io_call_v Z (io_runV (ci := 10) (k := 111) [.int p2, .int p3] [] B Z (io_c_X10_gives l D ca ad A _ p2 p3 _ hw) io_k_10_179 (io_hR (by decide) (by decide)) rfl (by decide) (io_e_111 _) rfl hl.1 (Nat.le_of_ble_eq_true rfl) dX10_goOn_55 ⟨Nat.le_refl _, Nat.le_refl _⟩) (fun s4 H locs hw Z => ?_)
    exact io_ret_v B Z hr hlk hw dX10_goOn_58
  · have hw := hw.2 k2
    refine lv_aload_n B.1 B.2.1 dX10_goOn_9 rfl (lv_at hl 0 rfl) ?_
    refine lv_aload_n B.1 B.2.1 dX10_goOn_10 rfl (lv_at hl 0 rfl) ?_
    refine io_g_10_43 B Z dX10_goOn_11 ?_
    refine lv_iload_n B.1 B.2.1 dX10_goOn_14 rfl (lv_at hl 1 rfl) ?_
    refine io_iald B Z 144 (by decide) io_e_144 hw.1 dX10_goOn_15 ?_
    have hw := hw.2
    refine io_p_10_48 B Z dX10_goOn_16 (fun s5 H locs e6 Z => ?_)
    have hw := hw s5 e6
    refine lv_aload_n B.1 B.2.1 dX10_goOn_19 rfl (lv_at hl 0 rfl) ?_
    refine lv_aload_n B.1 B.2.1 dX10_goOn_20 rfl (lv_at hl 0 rfl) ?_
    refine io_g_10_44 B Z dX10_goOn_21 ?_
    refine lv_iload_n B.1 B.2.1 dX10_goOn_24 rfl (lv_at hl 1 rfl) ?_
    refine io_iald B Z 145 (by decide) io_e_145 hw.1 dX10_goOn_25 ?_
    have hw := hw.2
    refine io_p_10_49 B Z dX10_goOn_26 (fun s7 H locs e8 Z => ?_)
    have hw := hw s7 e8
    refine lv_aload_n B.1 B.2.1 dX10_goOn_29 rfl (lv_at hl 0 rfl) ?_
    refine lv_aload_n B.1 B.2.1 dX10_goOn_30 rfl (lv_at hl 0 rfl) ?_
    refine io_g_10_45 B Z dX10_goOn_31 ?_
    refine lv_iload_n B.1 B.2.1 dX10_goOn_34 rfl (lv_at hl 1 rfl) ?_
    refine io_iald B Z 146 (by decide) io_e_146 hw.1 dX10_goOn_35 ?_
    have hw := hw.2
    refine io_p_10_50 B Z dX10_goOn_36 (fun s9 H locs e10 Z => ?_)
    have hw := hw s9 e10
    refine lv_aload_n B.1 B.2.1 dX10_goOn_39 rfl (lv_at hl 0 rfl) ?_
    refine lv_dup B.1 B.2.1 dX10_goOn_40 rfl ?_
    refine io_g_10_38 B Z dX10_goOn_41 ?_
    refine lv_iconst (v := 1) B.1 B.2.1 dX10_goOn_44 (by decide) ?_
    refine lv_isub B.1 B.2.1 dX10_goOn_45 ?_
    refine io_p_10_38 B Z dX10_goOn_46 (fun s11 H locs e12 Z => ?_)
    have hw := hw s11 e12
    refine lv_goto (tgt := 58) B.1 B.2.1 dX10_goOn_49 (by decide) ?_
    exact io_ret_v B Z hr hlk hw dX10_goOn_58
def wp_X10_goBracket (σ : io_M) (p1 : Int32) (p2 : Int32) (p3 : Int32) (post : io_M → Prop) : Prop := ((p3 = 2 → (vp_in p1 64 ∧ ∀ s5, s5 = io_up σ 147 (p1).toNatClampNeg ((σ 111 47)) → (vp_in p1 64 ∧ ∀ s7, s7 = io_up s5 148 (p1).toNatClampNeg ((s5 111 46)) → (vp_in p1 64 ∧ (vp_in 5 6 ∧ ∀ s9, s9 = io_up s7 123 (5 : Int32).toNatClampNeg ((s7 142 (p1).toNatClampNeg)) → (vp_in p1 64 ∧ (vp_in 5 6 ∧ ∀ s11, s11 = io_up s9 122 (5 : Int32).toNatClampNeg ((s9 143 (p1).toNatClampNeg)) → (vp_in p2 60 ∧ (wp_X10_begin s11 (s11 120 (p2).toNatClampNeg) (fun s14 => post s14)))))))))) ∧ (¬ (p3 = 2) → (vp_in p1 64 ∧ (vp_in p1 64 ∧ (wp_X10_goOn σ p1 (σ 148 (p1).toNatClampNeg) (σ 147 (p1).toNatClampNeg) (fun s4 => post s4))))))
set_option maxHeartbeats 4000000 in
set_option maxRecDepth 100000 in
theorem io_c_X10_goBracket (l : Launch) (D : va_G) (ca : Nat → ClassId) (ad : Nat → Nat) (A : Nat → Prop) (σ : io_M) (p1 : Int32) (p2 : Int32) (p3 : Int32) (post : io_M → Prop) (hw : wp_X10_goBracket σ p1 p2 p3 post) : Met l yX10_goBracket (.code yX10_goBracket cX10_goBracket 4 none :: io_tb) (io_rm 2) (va_Pc [.ref (ad 111), .int p1, .int p2, .int p3] (io_W D ca ad A σ)) (va_Qv post (io_W D ca ad A) A) 0 0 A := by
  refine Met.ofW (cc := cX10_goBracket) (maxL := 4) (ret := none) (by decide) rfl ?_
  intro p e s m args below meth c s₁ Bd hml hv
  obtain ⟨rfl, hW0⟩ := hv
  have Z := io_Z.start hW0
  have B : CallFix p m c cX10_goBracket 4 s _ io_tb RX10 := ⟨Bd.exec, Bd.bytes, hml, findClass_of_methodNamed Bd.named, fun w hw => atoms_spec (ws := (.code yX10_goBracket cX10_goBracket 4 none :: io_tb)) Bd.pre w (List.mem_cons_of_mem _ hw)⟩
  have hr := Bd.returns
  have hlk := Bd.notSynchronized
  have hl := lv_entry ([.ref (ad 111), .int p1, .int p2, .int p3]) (n := 4) (Nat.le_of_ble_eq_true rfl)
  rw [lg_entry_eq]
  generalize (lg_sl ([.ref (ad 111), .int p1, .int p2, .int p3]) ++ List.replicate (4 - (lg_sl ([.ref (ad 111), .int p1, .int p2, .int p3])).length) Slot.unset).toArray = ls at hl ⊢
  have hl : lv_has ls 4 [(0, .ref (ad 111)), (1, .int p1), (2, .int p2), (3, .int p3)] := hl
  show W p l e (io_rm 2) s m _ below meth c s.heap [] 0 0 _ (F0 m 0 ls [])
  unfold wp_X10_goBracket at hw
  refine lv_iload_n B.1 B.2.1 dX10_goBracket_0 rfl (lv_at hl 3 rfl) ?_
  refine lv_iconst (v := 2) B.1 B.2.1 dX10_goBracket_1 (by decide) ?_
  refine lv_icmp_ne (tgt := 62) B.1 B.2.1 dX10_goBracket_2 (by decide) (fun k2 => ?_) (fun k2 => ?_)
  · have hw := hw.2 k2
    refine lv_aload_n B.1 B.2.1 dX10_goBracket_62 rfl (lv_at hl 0 rfl) ?_
    refine lv_iload_n B.1 B.2.1 dX10_goBracket_63 rfl (lv_at hl 1 rfl) ?_
    refine lv_aload_n B.1 B.2.1 dX10_goBracket_64 rfl (lv_at hl 0 rfl) ?_
    refine io_g_10_52 B Z dX10_goBracket_65 ?_
    refine lv_iload_n B.1 B.2.1 dX10_goBracket_68 rfl (lv_at hl 1 rfl) ?_
    refine io_iald B Z 148 (by decide) io_e_148 hw.1 dX10_goBracket_69 ?_
    have hw := hw.2
    refine lv_aload_n B.1 B.2.1 dX10_goBracket_70 rfl (lv_at hl 0 rfl) ?_
    refine io_g_10_51 B Z dX10_goBracket_71 ?_
    refine lv_iload_n B.1 B.2.1 dX10_goBracket_74 rfl (lv_at hl 1 rfl) ?_
    refine io_iald B Z 147 (by decide) io_e_147 hw.1 dX10_goBracket_75 ?_
    have hw := hw.2
    refine io_call_v Z (io_runV (ci := 10) (k := 111) [.int p1, .int (σ 148 (p1).toNatClampNeg), .int (σ 147 (p1).toNatClampNeg)] [] B Z (io_c_X10_goOn l D ca ad A _ p1 (σ 148 (p1).toNatClampNeg) (σ 147 (p1).toNatClampNeg) _ hw) io_k_10_278 (io_hR (by decide) (by decide)) rfl (by decide) (io_e_111 _) rfl hl.1 (Nat.le_of_ble_eq_true rfl) dX10_goBracket_76 ⟨Nat.le_refl _, Nat.le_refl _⟩) (fun s4 H locs hw Z => ?_)
    exact io_ret_v B Z hr hlk hw dX10_goBracket_79
  · have hw := hw.1 k2
    refine lv_aload_n B.1 B.2.1 dX10_goBracket_5 rfl (lv_at hl 0 rfl) ?_
    refine io_g_10_51 B Z dX10_goBracket_6 ?_
    refine lv_iload_n B.1 B.2.1 dX10_goBracket_9 rfl (lv_at hl 1 rfl) ?_
    refine lv_aload_n B.1 B.2.1 dX10_goBracket_10 rfl (lv_at hl 0 rfl) ?_
    refine io_g_10_47 B Z dX10_goBracket_11 ?_
    refine io_iast B Z 147 (by decide) io_e_147 hw.1 dX10_goBracket_14 (fun s5 H locs e6 Z => ?_)
    have hw := hw.2 s5 e6
    refine lv_aload_n B.1 B.2.1 dX10_goBracket_15 rfl (lv_at hl 0 rfl) ?_
    refine io_g_10_52 B Z dX10_goBracket_16 ?_
    refine lv_iload_n B.1 B.2.1 dX10_goBracket_19 rfl (lv_at hl 1 rfl) ?_
    refine lv_aload_n B.1 B.2.1 dX10_goBracket_20 rfl (lv_at hl 0 rfl) ?_
    refine io_g_10_46 B Z dX10_goBracket_21 ?_
    refine io_iast B Z 148 (by decide) io_e_148 hw.1 dX10_goBracket_24 (fun s7 H locs e8 Z => ?_)
    have hw := hw.2 s7 e8
    refine lv_aload_n B.1 B.2.1 dX10_goBracket_25 rfl (lv_at hl 0 rfl) ?_
    refine io_g_10_15 B Z dX10_goBracket_26 ?_
    refine lv_iconst (v := 5) B.1 B.2.1 dX10_goBracket_29 (by decide) ?_
    refine lv_aload_n B.1 B.2.1 dX10_goBracket_30 rfl (lv_at hl 0 rfl) ?_
    refine io_g_10_41 B Z dX10_goBracket_31 ?_
    refine lv_iload_n B.1 B.2.1 dX10_goBracket_34 rfl (lv_at hl 1 rfl) ?_
    refine io_iald B Z 142 (by decide) io_e_142 hw.1 dX10_goBracket_35 ?_
    have hw := hw.2
    refine io_iast B Z 123 (by decide) io_e_123 hw.1 dX10_goBracket_36 (fun s9 H locs e10 Z => ?_)
    have hw := hw.2 s9 e10
    refine lv_aload_n B.1 B.2.1 dX10_goBracket_37 rfl (lv_at hl 0 rfl) ?_
    refine io_g_10_14 B Z dX10_goBracket_38 ?_
    refine lv_iconst (v := 5) B.1 B.2.1 dX10_goBracket_41 (by decide) ?_
    refine lv_aload_n B.1 B.2.1 dX10_goBracket_42 rfl (lv_at hl 0 rfl) ?_
    refine io_g_10_42 B Z dX10_goBracket_43 ?_
    refine lv_iload_n B.1 B.2.1 dX10_goBracket_46 rfl (lv_at hl 1 rfl) ?_
    refine io_iald B Z 143 (by decide) io_e_143 hw.1 dX10_goBracket_47 ?_
    have hw := hw.2
    refine io_iast B Z 122 (by decide) io_e_122 hw.1 dX10_goBracket_48 (fun s11 H locs e12 Z => ?_)
    have hw := hw.2 s11 e12
    refine lv_aload_n B.1 B.2.1 dX10_goBracket_49 rfl (lv_at hl 0 rfl) ?_
    refine lv_aload_n B.1 B.2.1 dX10_goBracket_50 rfl (lv_at hl 0 rfl) ?_
    refine io_g_10_12 B Z dX10_goBracket_51 ?_
    refine lv_iload_n B.1 B.2.1 dX10_goBracket_54 rfl (lv_at hl 2 rfl) ?_
    refine io_iald B Z 120 (by decide) io_e_120 hw.1 dX10_goBracket_55 ?_
    have hw := hw.2
    refine io_call_v Z (io_runV (ci := 10) (k := 111) [.int (s11 120 (p2).toNatClampNeg)] [] B Z (io_c_X10_begin l D ca ad A _ (s11 120 (p2).toNatClampNeg) _ hw) io_k_10_209 (io_hR (by decide) (by decide)) rfl (by decide) (io_e_111 _) rfl hl.1 (Nat.le_of_ble_eq_true rfl) dX10_goBracket_56 ⟨Nat.le_refl _, Nat.le_refl _⟩) (fun s14 H locs hw Z => ?_)
    refine lv_goto (tgt := 79) B.1 B.2.1 dX10_goBracket_59 (by decide) ?_
    exact io_ret_v B Z hr hlk hw dX10_goBracket_79
def wp_X10_goFinally (σ : io_M) (p1 : Int32) (p2 : Int32) (p3 : Int32) (post : io_M → Prop) : Prop := ((p3 = 1 → (vp_in p1 64 ∧ ∀ s5, s5 = io_up σ 142 (p1).toNatClampNeg ((σ 111 47)) → (vp_in p1 64 ∧ ∀ s7, s7 = io_up s5 143 (p1).toNatClampNeg ((s5 111 46)) → (wp_X10_begin s7 p2 (fun s10 => post s10))))) ∧ (¬ (p3 = 1) → (vp_in p1 64 ∧ (vp_in p1 64 ∧ (wp_X10_goOn σ p1 (σ 143 (p1).toNatClampNeg) (σ 142 (p1).toNatClampNeg) (fun s4 => post s4))))))
set_option maxHeartbeats 4000000 in
set_option maxRecDepth 100000 in
theorem io_c_X10_goFinally (l : Launch) (D : va_G) (ca : Nat → ClassId) (ad : Nat → Nat) (A : Nat → Prop) (σ : io_M) (p1 : Int32) (p2 : Int32) (p3 : Int32) (post : io_M → Prop) (hw : wp_X10_goFinally σ p1 p2 p3 post) : Met l yX10_goFinally (.code yX10_goFinally cX10_goFinally 4 none :: io_tb) (io_rm 2) (va_Pc [.ref (ad 111), .int p1, .int p2, .int p3] (io_W D ca ad A σ)) (va_Qv post (io_W D ca ad A) A) 0 0 A := by
  refine Met.ofW (cc := cX10_goFinally) (maxL := 4) (ret := none) (by decide) rfl ?_
  intro p e s m args below meth c s₁ Bd hml hv
  obtain ⟨rfl, hW0⟩ := hv
  have Z := io_Z.start hW0
  have B : CallFix p m c cX10_goFinally 4 s _ io_tb RX10 := ⟨Bd.exec, Bd.bytes, hml, findClass_of_methodNamed Bd.named, fun w hw => atoms_spec (ws := (.code yX10_goFinally cX10_goFinally 4 none :: io_tb)) Bd.pre w (List.mem_cons_of_mem _ hw)⟩
  have hr := Bd.returns
  have hlk := Bd.notSynchronized
  have hl := lv_entry ([.ref (ad 111), .int p1, .int p2, .int p3]) (n := 4) (Nat.le_of_ble_eq_true rfl)
  rw [lg_entry_eq]
  generalize (lg_sl ([.ref (ad 111), .int p1, .int p2, .int p3]) ++ List.replicate (4 - (lg_sl ([.ref (ad 111), .int p1, .int p2, .int p3])).length) Slot.unset).toArray = ls at hl ⊢
  have hl : lv_has ls 4 [(0, .ref (ad 111)), (1, .int p1), (2, .int p2), (3, .int p3)] := hl
  show W p l e (io_rm 2) s m _ below meth c s.heap [] 0 0 _ (F0 m 0 ls [])
  unfold wp_X10_goFinally at hw
  refine lv_iload_n B.1 B.2.1 dX10_goFinally_0 rfl (lv_at hl 3 rfl) ?_
  refine lv_iconst (v := 1) B.1 B.2.1 dX10_goFinally_1 (by decide) ?_
  refine lv_icmp_ne (tgt := 33) B.1 B.2.1 dX10_goFinally_2 (by decide) (fun k2 => ?_) (fun k2 => ?_)
  · have hw := hw.2 k2
    refine lv_aload_n B.1 B.2.1 dX10_goFinally_33 rfl (lv_at hl 0 rfl) ?_
    refine lv_iload_n B.1 B.2.1 dX10_goFinally_34 rfl (lv_at hl 1 rfl) ?_
    refine lv_aload_n B.1 B.2.1 dX10_goFinally_35 rfl (lv_at hl 0 rfl) ?_
    refine io_g_10_42 B Z dX10_goFinally_36 ?_
    refine lv_iload_n B.1 B.2.1 dX10_goFinally_39 rfl (lv_at hl 1 rfl) ?_
    refine io_iald B Z 143 (by decide) io_e_143 hw.1 dX10_goFinally_40 ?_
    have hw := hw.2
    refine lv_aload_n B.1 B.2.1 dX10_goFinally_41 rfl (lv_at hl 0 rfl) ?_
    refine io_g_10_41 B Z dX10_goFinally_42 ?_
    refine lv_iload_n B.1 B.2.1 dX10_goFinally_45 rfl (lv_at hl 1 rfl) ?_
    refine io_iald B Z 142 (by decide) io_e_142 hw.1 dX10_goFinally_46 ?_
    have hw := hw.2
    refine io_call_v Z (io_runV (ci := 10) (k := 111) [.int p1, .int (σ 143 (p1).toNatClampNeg), .int (σ 142 (p1).toNatClampNeg)] [] B Z (io_c_X10_goOn l D ca ad A _ p1 (σ 143 (p1).toNatClampNeg) (σ 142 (p1).toNatClampNeg) _ hw) io_k_10_278 (io_hR (by decide) (by decide)) rfl (by decide) (io_e_111 _) rfl hl.1 (Nat.le_of_ble_eq_true rfl) dX10_goFinally_47 ⟨Nat.le_refl _, Nat.le_refl _⟩) (fun s4 H locs hw Z => ?_)
    exact io_ret_v B Z hr hlk hw dX10_goFinally_50
  · have hw := hw.1 k2
    refine lv_aload_n B.1 B.2.1 dX10_goFinally_5 rfl (lv_at hl 0 rfl) ?_
    refine io_g_10_41 B Z dX10_goFinally_6 ?_
    refine lv_iload_n B.1 B.2.1 dX10_goFinally_9 rfl (lv_at hl 1 rfl) ?_
    refine lv_aload_n B.1 B.2.1 dX10_goFinally_10 rfl (lv_at hl 0 rfl) ?_
    refine io_g_10_47 B Z dX10_goFinally_11 ?_
    refine io_iast B Z 142 (by decide) io_e_142 hw.1 dX10_goFinally_14 (fun s5 H locs e6 Z => ?_)
    have hw := hw.2 s5 e6
    refine lv_aload_n B.1 B.2.1 dX10_goFinally_15 rfl (lv_at hl 0 rfl) ?_
    refine io_g_10_42 B Z dX10_goFinally_16 ?_
    refine lv_iload_n B.1 B.2.1 dX10_goFinally_19 rfl (lv_at hl 1 rfl) ?_
    refine lv_aload_n B.1 B.2.1 dX10_goFinally_20 rfl (lv_at hl 0 rfl) ?_
    refine io_g_10_46 B Z dX10_goFinally_21 ?_
    refine io_iast B Z 143 (by decide) io_e_143 hw.1 dX10_goFinally_24 (fun s7 H locs e8 Z => ?_)
    have hw := hw.2 s7 e8
    refine lv_aload_n B.1 B.2.1 dX10_goFinally_25 rfl (lv_at hl 0 rfl) ?_
    refine lv_iload_n B.1 B.2.1 dX10_goFinally_26 rfl (lv_at hl 2 rfl) ?_
    refine io_call_v Z (io_runV (ci := 10) (k := 111) [.int p2] [] B Z (io_c_X10_begin l D ca ad A _ p2 _ hw) io_k_10_209 (io_hR (by decide) (by decide)) rfl (by decide) (io_e_111 _) rfl hl.1 (Nat.le_of_ble_eq_true rfl) dX10_goFinally_27 ⟨Nat.le_refl _, Nat.le_refl _⟩) (fun s10 H locs hw Z => ?_)
    refine lv_goto (tgt := 50) B.1 B.2.1 dX10_goFinally_30 (by decide) ?_
    exact io_ret_v B Z hr hlk hw dX10_goFinally_50
def wp_X10_goEnds (σ : io_M) (p1 : Int32) (p2 : Int32) (p3 : Int32) (p4 : Int32) (post : io_M → Prop) : Prop := ((p3 = 24 → (vp_in p2 60 ∧ (wp_X10_fails σ p2 (σ 119 (p2).toNatClampNeg) (fun s39 => post s39)))) ∧ (¬ (p3 = 24) → ((p4 = 0 → (vp_in p2 60 ∧ (wp_X10_begin σ (σ 119 (p2).toNatClampNeg) (fun s37 => post s37)))) ∧ (¬ (p4 = 0) → ((p3 = 25 → (wp_X10_isSort σ p2 0 (fun r24 s25 => ((r24 = 0 → post s25) ∧ (¬ (r24 = 0) → (∀ s28, s28 = io_up s25 111 48 2 → (∀ s30, s30 = io_up s28 111 49 (s28 111 47) → (∀ s32, s32 = io_up s30 111 50 (-1) → (∀ s34, s34 = io_up s32 111 38 ((s32 111 38) - 1) → post s34))))))))) ∧ (¬ (p3 = 25) → ((p3 = 26 → (∀ s22, s22 = io_up σ 111 38 ((σ 111 38) - 1) → post s22)) ∧ (¬ (p3 = 26) → ((p3 = 27 → (vp_in p2 60 ∧ (wp_X10_goFinally σ p1 (σ 120 (p2).toNatClampNeg) p4 (fun s21 => post s21)))) ∧ (¬ (p3 = 27) → ((p4 = 1 → (vp_in p1 64 ∧ ∀ s10, s10 = io_up σ 142 (p1).toNatClampNeg ((σ 111 47)) → (vp_in p1 64 ∧ ∀ s12, s12 = io_up s10 143 (p1).toNatClampNeg ((s10 111 46)) → (vp_in 5 6 ∧ ∀ s14, s14 = io_up s12 123 (5 : Int32).toNatClampNeg ((s12 111 47)) → (vp_in 5 6 ∧ ∀ s16, s16 = io_up s14 122 (5 : Int32).toNatClampNeg ((s14 111 46)) → (vp_in p2 60 ∧ (wp_X10_begin s16 (s16 121 (p2).toNatClampNeg) (fun s19 => post s19)))))))) ∧ (¬ (p4 = 1) → (wp_X10_goBracket σ p1 p2 p4 (fun s9 => post s9))))))))))))))
set_option maxHeartbeats 4000000 in
set_option maxRecDepth 100000 in
theorem io_c_X10_goEnds (l : Launch) (D : va_G) (ca : Nat → ClassId) (ad : Nat → Nat) (A : Nat → Prop) (σ : io_M) (p1 : Int32) (p2 : Int32) (p3 : Int32) (p4 : Int32) (post : io_M → Prop) (hw : wp_X10_goEnds σ p1 p2 p3 p4 post) : Met l yX10_goEnds (.code yX10_goEnds cX10_goEnds 5 none :: io_tb) (io_rm 3) (va_Pc [.ref (ad 111), .int p1, .int p2, .int p3, .int p4] (io_W D ca ad A σ)) (va_Qv post (io_W D ca ad A) A) 0 0 A := by
  refine Met.ofW (cc := cX10_goEnds) (maxL := 5) (ret := none) (by decide) rfl ?_
  intro p e s m args below meth c s₁ Bd hml hv
  obtain ⟨rfl, hW0⟩ := hv
  have Z := io_Z.start hW0
  have B : CallFix p m c cX10_goEnds 5 s _ io_tb RX10 := ⟨Bd.exec, Bd.bytes, hml, findClass_of_methodNamed Bd.named, fun w hw => atoms_spec (ws := (.code yX10_goEnds cX10_goEnds 5 none :: io_tb)) Bd.pre w (List.mem_cons_of_mem _ hw)⟩
  have hr := Bd.returns
  have hlk := Bd.notSynchronized
  have hl := lv_entry ([.ref (ad 111), .int p1, .int p2, .int p3, .int p4]) (n := 5) (Nat.le_of_ble_eq_true rfl)
  rw [lg_entry_eq]
  generalize (lg_sl ([.ref (ad 111), .int p1, .int p2, .int p3, .int p4]) ++ List.replicate (5 - (lg_sl ([.ref (ad 111), .int p1, .int p2, .int p3, .int p4])).length) Slot.unset).toArray = ls at hl ⊢
  have hl : lv_has ls 5 [(0, .ref (ad 111)), (1, .int p1), (2, .int p2), (3, .int p3), (4, .int p4)] := hl
  show W p l e (io_rm 3) s m _ below meth c s.heap [] 0 0 _ (F0 m 0 ls [])
  unfold wp_X10_goEnds at hw
  refine lv_iload_n B.1 B.2.1 dX10_goEnds_0 rfl (lv_at hl 3 rfl) ?_
  refine lv_bipush (v := 24) B.1 B.2.1 dX10_goEnds_1 (by decide) ?_
  refine lv_icmp_ne (tgt := 20) B.1 B.2.1 dX10_goEnds_3 (by decide) (fun k2 => ?_) (fun k2 => ?_)
  · have hw := hw.2 k2
    refine lv_iload B.1 B.2.1 dX10_goEnds_20 (lv_at hl 4 rfl) ?_
    refine lv_if_ne (tgt := 38) B.1 B.2.1 dX10_goEnds_22 (by decide) (fun k3 => ?_) (fun k3 => ?_)
    · have hw := hw.2 k3
      refine lv_iload_n B.1 B.2.1 dX10_goEnds_38 rfl (lv_at hl 3 rfl) ?_
      refine lv_bipush (v := 25) B.1 B.2.1 dX10_goEnds_39 (by decide) ?_
      refine lv_icmp_ne (tgt := 84) B.1 B.2.1 dX10_goEnds_41 (by decide) (fun k4 => ?_) (fun k4 => ?_)
      · have hw := hw.2 k4
        refine lv_iload_n B.1 B.2.1 dX10_goEnds_84 rfl (lv_at hl 3 rfl) ?_
        refine lv_bipush (v := 26) B.1 B.2.1 dX10_goEnds_85 (by decide) ?_
        refine lv_icmp_ne (tgt := 103) B.1 B.2.1 dX10_goEnds_87 (by decide) (fun k5 => ?_) (fun k5 => ?_)
        · have hw := hw.2 k5
          refine lv_iload_n B.1 B.2.1 dX10_goEnds_103 rfl (lv_at hl 3 rfl) ?_
          refine lv_bipush (v := 27) B.1 B.2.1 dX10_goEnds_104 (by decide) ?_
          refine lv_icmp_ne (tgt := 125) B.1 B.2.1 dX10_goEnds_106 (by decide) (fun k6 => ?_) (fun k6 => ?_)
          · have hw := hw.2 k6
            refine lv_iload B.1 B.2.1 dX10_goEnds_125 (lv_at hl 4 rfl) ?_
            refine lv_iconst (v := 1) B.1 B.2.1 dX10_goEnds_127 (by decide) ?_
            refine lv_icmp_ne (tgt := 184) B.1 B.2.1 dX10_goEnds_128 (by decide) (fun k7 => ?_) (fun k7 => ?_)
            · have hw := hw.2 k7
              refine lv_aload_n B.1 B.2.1 dX10_goEnds_184 rfl (lv_at hl 0 rfl) ?_
              refine lv_iload_n B.1 B.2.1 dX10_goEnds_185 rfl (lv_at hl 1 rfl) ?_
              refine lv_iload_n B.1 B.2.1 dX10_goEnds_186 rfl (lv_at hl 2 rfl) ?_
              refine lv_iload B.1 B.2.1 dX10_goEnds_187 (lv_at hl 4 rfl) ?_
              refine io_call_v Z (io_runV (ci := 10) (k := 111) [.int p1, .int p2, .int p4] [] B Z (io_c_X10_goBracket l D ca ad A _ p1 p2 p4 _ hw) io_k_10_275 (io_hR (by decide) (by decide)) rfl (by decide) (io_e_111 _) rfl hl.1 (Nat.le_of_ble_eq_true rfl) dX10_goEnds_189 ⟨Nat.le_refl _, Nat.le_refl _⟩) (fun s9 H locs hw Z => ?_)
              exact io_ret_v B Z hr hlk hw dX10_goEnds_192
            · have hw := hw.1 k7
              refine lv_aload_n B.1 B.2.1 dX10_goEnds_131 rfl (lv_at hl 0 rfl) ?_
              refine io_g_10_41 B Z dX10_goEnds_132 ?_
              refine lv_iload_n B.1 B.2.1 dX10_goEnds_135 rfl (lv_at hl 1 rfl) ?_
              refine lv_aload_n B.1 B.2.1 dX10_goEnds_136 rfl (lv_at hl 0 rfl) ?_
              refine io_g_10_47 B Z dX10_goEnds_137 ?_
              refine io_iast B Z 142 (by decide) io_e_142 hw.1 dX10_goEnds_140 (fun s10 H locs e11 Z => ?_)
              have hw := hw.2 s10 e11
              refine lv_aload_n B.1 B.2.1 dX10_goEnds_141 rfl (lv_at hl 0 rfl) ?_
              refine io_g_10_42 B Z dX10_goEnds_142 ?_
              refine lv_iload_n B.1 B.2.1 dX10_goEnds_145 rfl (lv_at hl 1 rfl) ?_
              refine lv_aload_n B.1 B.2.1 dX10_goEnds_146 rfl (lv_at hl 0 rfl) ?_
              refine io_g_10_46 B Z dX10_goEnds_147 ?_
              refine io_iast B Z 143 (by decide) io_e_143 hw.1 dX10_goEnds_150 (fun s12 H locs e13 Z => ?_)
              have hw := hw.2 s12 e13
              refine lv_aload_n B.1 B.2.1 dX10_goEnds_151 rfl (lv_at hl 0 rfl) ?_
              refine io_g_10_15 B Z dX10_goEnds_152 ?_
              refine lv_iconst (v := 5) B.1 B.2.1 dX10_goEnds_155 (by decide) ?_
              refine lv_aload_n B.1 B.2.1 dX10_goEnds_156 rfl (lv_at hl 0 rfl) ?_
              refine io_g_10_47 B Z dX10_goEnds_157 ?_
              refine io_iast B Z 123 (by decide) io_e_123 hw.1 dX10_goEnds_160 (fun s14 H locs e15 Z => ?_)
              have hw := hw.2 s14 e15
              refine lv_aload_n B.1 B.2.1 dX10_goEnds_161 rfl (lv_at hl 0 rfl) ?_
              refine io_g_10_14 B Z dX10_goEnds_162 ?_
              refine lv_iconst (v := 5) B.1 B.2.1 dX10_goEnds_165 (by decide) ?_
              refine lv_aload_n B.1 B.2.1 dX10_goEnds_166 rfl (lv_at hl 0 rfl) ?_
              refine io_g_10_46 B Z dX10_goEnds_167 ?_
              refine io_iast B Z 122 (by decide) io_e_122 hw.1 dX10_goEnds_170 (fun s16 H locs e17 Z => ?_)
              have hw := hw.2 s16 e17
              refine lv_aload_n B.1 B.2.1 dX10_goEnds_171 rfl (lv_at hl 0 rfl) ?_
              refine lv_aload_n B.1 B.2.1 dX10_goEnds_172 rfl (lv_at hl 0 rfl) ?_
              refine io_g_10_13 B Z dX10_goEnds_173 ?_
              refine lv_iload_n B.1 B.2.1 dX10_goEnds_176 rfl (lv_at hl 2 rfl) ?_
              refine io_iald B Z 121 (by decide) io_e_121 hw.1 dX10_goEnds_177 ?_
              have hw := hw.2
              refine io_call_v Z (io_runV (ci := 10) (k := 111) [.int (s16 121 (p2).toNatClampNeg)] [] B Z (io_c_X10_begin l D ca ad A _ (s16 121 (p2).toNatClampNeg) _ hw) io_k_10_209 (io_hR (by decide) (by decide)) rfl (by decide) (io_e_111 _) rfl hl.1 (Nat.le_of_ble_eq_true rfl) dX10_goEnds_178 ⟨Nat.le_refl _, Nat.le_refl _⟩) (fun s19 H locs hw Z => ?_)
              refine lv_goto (tgt := 192) B.1 B.2.1 dX10_goEnds_181 (by decide) ?_
              exact io_ret_v B Z hr hlk hw dX10_goEnds_192
          · have hw := hw.1 k6
            refine lv_aload_n B.1 B.2.1 dX10_goEnds_109 rfl (lv_at hl 0 rfl) ?_
            refine lv_iload_n B.1 B.2.1 dX10_goEnds_110 rfl (lv_at hl 1 rfl) ?_
            refine lv_aload_n B.1 B.2.1 dX10_goEnds_111 rfl (lv_at hl 0 rfl) ?_
            refine io_g_10_12 B Z dX10_goEnds_112 ?_
            refine lv_iload_n B.1 B.2.1 dX10_goEnds_115 rfl (lv_at hl 2 rfl) ?_
            refine io_iald B Z 120 (by decide) io_e_120 hw.1 dX10_goEnds_116 ?_
            have hw := hw.2
            refine lv_iload B.1 B.2.1 dX10_goEnds_117 (lv_at hl 4 rfl) ?_
            refine io_call_v Z (io_runV (ci := 10) (k := 111) [.int p1, .int (σ 120 (p2).toNatClampNeg), .int p4] [] B Z (io_c_X10_goFinally l D ca ad A _ p1 (σ 120 (p2).toNatClampNeg) p4 _ hw) io_k_10_272 (io_hR (by decide) (by decide)) rfl (by decide) (io_e_111 _) rfl hl.1 (Nat.le_of_ble_eq_true rfl) dX10_goEnds_119 ⟨Nat.le_refl _, Nat.le_refl _⟩) (fun s21 H locs hw Z => ?_)
            refine lv_goto (tgt := 192) B.1 B.2.1 dX10_goEnds_122 (by decide) ?_
            exact io_ret_v B Z hr hlk hw dX10_goEnds_192
        · have hw := hw.1 k5
          refine lv_aload_n B.1 B.2.1 dX10_goEnds_90 rfl (lv_at hl 0 rfl) ?_
          refine lv_dup B.1 B.2.1 dX10_goEnds_91 rfl ?_
          refine io_g_10_38 B Z dX10_goEnds_92 ?_
          refine lv_iconst (v := 1) B.1 B.2.1 dX10_goEnds_95 (by decide) ?_
          refine lv_isub B.1 B.2.1 dX10_goEnds_96 ?_
          refine io_p_10_38 B Z dX10_goEnds_97 (fun s22 H locs e23 Z => ?_)
          have hw := hw s22 e23
          refine lv_goto (tgt := 192) B.1 B.2.1 dX10_goEnds_100 (by decide) ?_
          exact io_ret_v B Z hr hlk hw dX10_goEnds_192
      · have hw := hw.1 k4
        refine lv_aload_n B.1 B.2.1 dX10_goEnds_44 rfl (lv_at hl 0 rfl) ?_
        refine lv_iload_n B.1 B.2.1 dX10_goEnds_45 rfl (lv_at hl 2 rfl) ?_
        refine lv_iconst (v := 0) B.1 B.2.1 dX10_goEnds_46 (by decide) ?_
        refine io_call_i Z (io_runV (ci := 10) (k := 111) [.int p2, .int 0] [] B Z (io_c_X10_isSort l D ca ad A _ p2 0 _ hw) io_k_10_235 (io_hR (by decide) (by decide)) rfl (by decide) (io_e_111 _) rfl hl.1 (Nat.le_of_ble_eq_true rfl) dX10_goEnds_47 ⟨Nat.le_refl _, Nat.le_refl _⟩) (fun r24 s25 H locs hw Z => ?_)
        obtain ⟨b26, hw⟩ := hw
        refine lv_if_eq (tgt := 192) B.1 B.2.1 dX10_goEnds_50 (by decide) (fun k27 => ?_) (fun k27 => ?_)
        · have hw := hw.1 k27
          exact io_ret_v B Z hr hlk hw dX10_goEnds_192
        · have hw := hw.2 k27
          refine lv_aload_n B.1 B.2.1 dX10_goEnds_53 rfl (lv_at hl 0 rfl) ?_
          refine lv_iconst (v := 2) B.1 B.2.1 dX10_goEnds_54 (by decide) ?_
          refine io_p_10_48 B Z dX10_goEnds_55 (fun s28 H locs e29 Z => ?_)
          have hw := hw s28 e29
          refine lv_aload_n B.1 B.2.1 dX10_goEnds_58 rfl (lv_at hl 0 rfl) ?_
          refine lv_aload_n B.1 B.2.1 dX10_goEnds_59 rfl (lv_at hl 0 rfl) ?_
          refine io_g_10_47 B Z dX10_goEnds_60 ?_
          refine io_p_10_49 B Z dX10_goEnds_63 (fun s30 H locs e31 Z => ?_)
          have hw := hw s30 e31
          refine lv_aload_n B.1 B.2.1 dX10_goEnds_66 rfl (lv_at hl 0 rfl) ?_
          refine lv_iconst (v := (-1)) B.1 B.2.1 dX10_goEnds_67 (by decide) ?_
          refine io_p_10_50 B Z dX10_goEnds_68 (fun s32 H locs e33 Z => ?_)
          have hw := hw s32 e33
          refine lv_aload_n B.1 B.2.1 dX10_goEnds_71 rfl (lv_at hl 0 rfl) ?_
          refine lv_dup B.1 B.2.1 dX10_goEnds_72 rfl ?_
          refine io_g_10_38 B Z dX10_goEnds_73 ?_
          refine lv_iconst (v := 1) B.1 B.2.1 dX10_goEnds_76 (by decide) ?_
          refine lv_isub B.1 B.2.1 dX10_goEnds_77 ?_
          refine io_p_10_38 B Z dX10_goEnds_78 (fun s34 H locs e35 Z => ?_)
          have hw := hw s34 e35
          refine lv_goto (tgt := 192) B.1 B.2.1 dX10_goEnds_81 (by decide) ?_
          exact io_ret_v B Z hr hlk hw dX10_goEnds_192
    · have hw := hw.1 k3
      refine lv_aload_n B.1 B.2.1 dX10_goEnds_25 rfl (lv_at hl 0 rfl) ?_
      refine lv_aload_n B.1 B.2.1 dX10_goEnds_26 rfl (lv_at hl 0 rfl) ?_
      refine io_g_10_11 B Z dX10_goEnds_27 ?_
      refine lv_iload_n B.1 B.2.1 dX10_goEnds_30 rfl (lv_at hl 2 rfl) ?_
      refine io_iald B Z 119 (by decide) io_e_119 hw.1 dX10_goEnds_31 ?_
      have hw := hw.2
      refine io_call_v Z (io_runV (ci := 10) (k := 111) [.int (σ 119 (p2).toNatClampNeg)] [] B Z (io_c_X10_begin l D ca ad A _ (σ 119 (p2).toNatClampNeg) _ hw) io_k_10_209 (io_hR (by decide) (by decide)) rfl (by decide) (io_e_111 _) rfl hl.1 (Nat.le_of_ble_eq_true rfl) dX10_goEnds_32 ⟨Nat.le_refl _, Nat.le_refl _⟩) (fun s37 H locs hw Z => ?_)
      refine lv_goto (tgt := 192) B.1 B.2.1 dX10_goEnds_35 (by decide) ?_
      exact io_ret_v B Z hr hlk hw dX10_goEnds_192
  · have hw := hw.1 k2
    refine lv_aload_n B.1 B.2.1 dX10_goEnds_6 rfl (lv_at hl 0 rfl) ?_
    refine lv_iload_n B.1 B.2.1 dX10_goEnds_7 rfl (lv_at hl 2 rfl) ?_
    refine lv_aload_n B.1 B.2.1 dX10_goEnds_8 rfl (lv_at hl 0 rfl) ?_
    refine io_g_10_11 B Z dX10_goEnds_9 ?_
    refine lv_iload_n B.1 B.2.1 dX10_goEnds_12 rfl (lv_at hl 2 rfl) ?_
    refine io_iald B Z 119 (by decide) io_e_119 hw.1 dX10_goEnds_13 ?_
    have hw := hw.2
    refine io_call_v Z (io_runV (ci := 10) (k := 111) [.int p2, .int (σ 119 (p2).toNatClampNeg)] [] B Z (io_c_X10_fails l D ca ad A _ p2 (σ 119 (p2).toNatClampNeg) _ hw) io_k_10_171 (io_hR (by decide) (by decide)) rfl (by decide) (io_e_111 _) rfl hl.1 (Nat.le_of_ble_eq_true rfl) dX10_goEnds_14 ⟨Nat.le_refl _, Nat.le_refl _⟩) (fun s39 H locs hw Z => ?_)
    refine lv_goto (tgt := 192) B.1 B.2.1 dX10_goEnds_17 (by decide) ?_
    exact io_ret_v B Z hr hlk hw dX10_goEnds_192
def wj_X10_close_40 (σ : io_M) (x1 : Int32) (x2 : Int32) (y0 : Int32) (post : io_M → Prop) : Prop := (vp_in x2 20 ∧ ∀ s101, s101 = io_up σ 127 (x2).toNatClampNeg (2) → (wp_X10_note s101 x1 (fun s104 => ((y0 = 0 → (wp_X10_fails s104 x1 5 (fun s107 => post s107))) ∧ (¬ (y0 = 0) → (wp_X10_gives s104 0 0 (fun s109 => post s109)))))))
def wj_X10_close_35 (σ : io_M) (x1 : Int32) (x2 : Int32) (post : io_M → Prop) : Prop := wj_X10_close_40 σ x1 x2 1 post
def wp_X10_close (σ : io_M) (p1 : Int32) (p2 : Int32) (post : io_M → Prop) : Prop := (vp_in p2 20 ∧ (((σ 127 (p2).toNatClampNeg) = 2 → (wp_X10_gives σ 0 0 (fun s9 => post s9))) ∧ (¬ ((σ 127 (p2).toNatClampNeg) = 2) → (vp_in p2 20 ∧ (((σ 127 (p2).toNatClampNeg) = 1 → wj_X10_close_35 σ p1 p2 post) ∧ (¬ ((σ 127 (p2).toNatClampNeg) = 1) → (wp_X10_flush σ p2 (fun r4 s5 => ((r4 = 0 → wj_X10_close_40 s5 p1 p2 0 post) ∧ (¬ (r4 = 0) → wj_X10_close_35 s5 p1 p2 post))))))))))
set_option maxHeartbeats 4000000 in
set_option maxRecDepth 100000 in
theorem io_c_X10_close (l : Launch) (D : va_G) (ca : Nat → ClassId) (ad : Nat → Nat) (A : Nat → Prop) (σ : io_M) (p1 : Int32) (p2 : Int32) (post : io_M → Prop) (hw : wp_X10_close σ p1 p2 post) : Met l yX10_close (.code yX10_close cX10_close 4 none :: io_tb) (io_rm 2) (va_Pc [.ref (ad 111), .int p1, .int p2] (io_W D ca ad A σ)) (va_Qv post (io_W D ca ad A) A) 0 0 A := by
  refine Met.ofW (cc := cX10_close) (maxL := 4) (ret := none) (by decide) rfl ?_
  intro p e s m args below meth c s₁ Bd hml hv
  obtain ⟨rfl, hW0⟩ := hv
  have Z := io_Z.start hW0
  have B : CallFix p m c cX10_close 4 s _ io_tb RX10 := ⟨Bd.exec, Bd.bytes, hml, findClass_of_methodNamed Bd.named, fun w hw => atoms_spec (ws := (.code yX10_close cX10_close 4 none :: io_tb)) Bd.pre w (List.mem_cons_of_mem _ hw)⟩
  have hr := Bd.returns
  have hlk := Bd.notSynchronized
  have hl := lv_entry ([.ref (ad 111), .int p1, .int p2]) (n := 4) (Nat.le_of_ble_eq_true rfl)
  rw [lg_entry_eq]
  generalize (lg_sl ([.ref (ad 111), .int p1, .int p2]) ++ List.replicate (4 - (lg_sl ([.ref (ad 111), .int p1, .int p2])).length) Slot.unset).toArray = ls at hl ⊢
  have hl : lv_has ls 4 [(0, .ref (ad 111)), (1, .int p1), (2, .int p2)] := hl
  show W p l e (io_rm 2) s m _ below meth c s.heap [] 0 0 _ (F0 m 0 ls [])
  have JN40 : ∀ (σ : io_M) (x1 : Int32) (x2 : Int32) (y0 : Int32), wj_X10_close_40 σ x1 x2 y0 post → ∀ (H : Heap) (locs : List Loc), io_Z D ca ad A s H locs σ → ∀ ls : Array Slot, lv_has ls 4 [(0, .ref (ad 111)), (1, .int x1), (2, .int x2)] → W p l e (io_rm 2) s m ([.ref (ad 111), .int p1, .int p2] : List Value).toArray below meth c H locs 0 0 (MQ below (va_Qv post (io_W D ca ad A) A) ([.ref (ad 111), .int p1, .int p2] : List Value).toArray s 0 0 A) (F0 m 40 ls [.int y0]) := by
    intro σ x1 x2 y0 hw H locs Z ls hl
    unfold wj_X10_close_40 at hw
    refine lv_istore_n (lv' := [(3, .int y0), (0, .ref (ad 111)), (1, .int x1), (2, .int x2)]) B.1 B.2.1 dX10_close_40 rfl hl (by decide) rfl (fun ls hl => ?_)
    refine lv_aload_n B.1 B.2.1 dX10_close_41 rfl (lv_at hl 1 rfl) ?_
    refine io_g_10_20 B Z dX10_close_42 ?_
    refine lv_iload_n B.1 B.2.1 dX10_close_45 rfl (lv_at hl 3 rfl) ?_
    refine lv_iconst (v := 2) B.1 B.2.1 dX10_close_46 (by decide) ?_
    refine io_iast B Z 127 (by decide) io_e_127 hw.1 dX10_close_47 (fun s101 H locs e102 Z => ?_)
    have hw := hw.2 s101 e102
    refine lv_aload_n B.1 B.2.1 dX10_close_48 rfl (lv_at hl 1 rfl) ?_
    refine lv_iload_n B.1 B.2.1 dX10_close_49 rfl (lv_at hl 2 rfl) ?_
    refine io_call_v Z (io_runV (ci := 10) (k := 111) [.int x1] [] B Z (io_c_X10_note l D ca ad A _ x1 _ hw) io_k_10_175 (io_hR (by decide) (by decide)) rfl (by decide) (io_e_111 _) rfl hl.1 (Nat.le_of_ble_eq_true rfl) dX10_close_50 ⟨Nat.le_refl _, Nat.le_refl _⟩) (fun s104 H locs hw Z => ?_)
    refine lv_iload_n B.1 B.2.1 dX10_close_53 rfl (lv_at hl 0 rfl) ?_
    refine lv_if_eq (tgt := 66) B.1 B.2.1 dX10_close_54 (by decide) (fun k105 => ?_) (fun k105 => ?_)
    · have hw := hw.1 k105
      refine lv_aload_n B.1 B.2.1 dX10_close_66 rfl (lv_at hl 1 rfl) ?_
      refine lv_iload_n B.1 B.2.1 dX10_close_67 rfl (lv_at hl 2 rfl) ?_
      refine lv_iconst (v := 5) B.1 B.2.1 dX10_close_68 (by decide) ?_
      refine io_call_v Z (io_runV (ci := 10) (k := 111) [.int x1, .int 5] [] B Z (io_c_X10_fails l D ca ad A _ x1 5 _ hw) io_k_10_171 (io_hR (by decide) (by decide)) rfl (by decide) (io_e_111 _) rfl hl.1 (Nat.le_of_ble_eq_true rfl) dX10_close_69 ⟨Nat.le_refl _, Nat.le_refl _⟩) (fun s107 H locs hw Z => ?_)
      exact io_ret_v B Z hr hlk hw dX10_close_72
    · have hw := hw.2 k105
      refine lv_aload_n B.1 B.2.1 dX10_close_57 rfl (lv_at hl 1 rfl) ?_
      refine lv_iconst (v := 0) B.1 B.2.1 dX10_close_58 (by decide) ?_
      refine lv_iconst (v := 0) B.1 B.2.1 dX10_close_59 (by decide) ?_
      refine io_call_v Z (io_runV (ci := 10) (k := 111) [.int 0, .int 0] [] B Z (io_c_X10_gives l D ca ad A _ 0 0 _ hw) io_k_10_179 (io_hR (by decide) (by decide)) rfl (by decide) (io_e_111 _) rfl hl.1 (Nat.le_of_ble_eq_true rfl) dX10_close_60 ⟨Nat.le_refl _, Nat.le_refl _⟩) (fun s109 H locs hw Z => ?_)
      refine lv_goto (tgt := 72) B.1 B.2.1 dX10_close_63 (by decide) ?_
      exact io_ret_v B Z hr hlk hw dX10_close_72
  have JN35 : ∀ (σ : io_M) (x1 : Int32) (x2 : Int32), wj_X10_close_35 σ x1 x2 post → ∀ (H : Heap) (locs : List Loc), io_Z D ca ad A s H locs σ → ∀ ls : Array Slot, lv_has ls 4 [(0, .ref (ad 111)), (1, .int x1), (2, .int x2)] → W p l e (io_rm 2) s m ([.ref (ad 111), .int p1, .int p2] : List Value).toArray below meth c H locs 0 0 (MQ below (va_Qv post (io_W D ca ad A) A) ([.ref (ad 111), .int p1, .int p2] : List Value).toArray s 0 0 A) (F0 m 35 ls []) := by
    intro σ x1 x2 hw H locs Z ls hl
    unfold wj_X10_close_35 at hw
    refine lv_iconst (v := 1) B.1 B.2.1 dX10_close_35 (by decide) ?_
    refine lv_goto (tgt := 40) B.1 B.2.1 dX10_close_36 (by decide) ?_
    exact JN40 _ x1 x2 1 hw _ _ Z _ (lv_sub (l' := [(0, .ref (ad 111)), (1, .int x1), (2, .int x2)]) hl [0, 1, 2] rfl)
  unfold wp_X10_close at hw
  refine lv_aload_n B.1 B.2.1 dX10_close_0 rfl (lv_at hl 0 rfl) ?_
  refine io_g_10_20 B Z dX10_close_1 ?_
  refine lv_iload_n B.1 B.2.1 dX10_close_4 rfl (lv_at hl 2 rfl) ?_
  refine io_iald B Z 127 (by decide) io_e_127 hw.1 dX10_close_5 ?_
  have hw := hw.2
  refine lv_iconst (v := 2) B.1 B.2.1 dX10_close_6 (by decide) ?_
  refine lv_icmp_ne (tgt := 17) B.1 B.2.1 dX10_close_7 (by decide) (fun k2 => ?_) (fun k2 => ?_)
  · have hw := hw.2 k2
    refine lv_aload_n B.1 B.2.1 dX10_close_17 rfl (lv_at hl 0 rfl) ?_
    refine io_g_10_20 B Z dX10_close_18 ?_
    refine lv_iload_n B.1 B.2.1 dX10_close_21 rfl (lv_at hl 2 rfl) ?_
    refine io_iald B Z 127 (by decide) io_e_127 hw.1 dX10_close_22 ?_
    have hw := hw.2
    refine lv_iconst (v := 1) B.1 B.2.1 dX10_close_23 (by decide) ?_
    refine lv_icmp_eq (tgt := 35) B.1 B.2.1 dX10_close_24 (by decide) (fun k3 => ?_) (fun k3 => ?_)
    · have hw := hw.1 k3
      exact JN35 _ p1 p2 hw _ _ Z _ (lv_sub (l' := [(0, .ref (ad 111)), (1, .int p1), (2, .int p2)]) hl [0, 1, 2] rfl)
    · have hw := hw.2 k3
      refine lv_aload_n B.1 B.2.1 dX10_close_27 rfl (lv_at hl 0 rfl) ?_
      refine lv_iload_n B.1 B.2.1 dX10_close_28 rfl (lv_at hl 2 rfl) ?_
      refine io_call_i Z (io_runV (ci := 10) (k := 111) [.int p2] [] B Z (io_c_X10_flush l D ca ad A _ p2 _ hw) io_k_10_263 (io_hR (by decide) (by decide)) rfl (by decide) (io_e_111 _) rfl hl.1 (Nat.le_of_ble_eq_true rfl) dX10_close_29 ⟨Nat.le_refl _, Nat.le_refl _⟩) (fun r4 s5 H locs hw Z => ?_)
      obtain ⟨b6, hw⟩ := hw
      refine lv_if_eq (tgt := 39) B.1 B.2.1 dX10_close_32 (by decide) (fun k7 => ?_) (fun k7 => ?_)
      · have hw := hw.1 k7
        refine lv_iconst (v := 0) B.1 B.2.1 dX10_close_39 (by decide) ?_
        exact JN40 _ p1 p2 0 hw _ _ Z _ (lv_sub (l' := [(0, .ref (ad 111)), (1, .int p1), (2, .int p2)]) hl [0, 1, 2] rfl)
      · have hw := hw.2 k7
        exact JN35 _ p1 p2 hw _ _ Z _ (lv_sub (l' := [(0, .ref (ad 111)), (1, .int p1), (2, .int p2)]) hl [0, 1, 2] rfl)
  · have hw := hw.1 k2
    refine lv_aload_n B.1 B.2.1 dX10_close_10 rfl (lv_at hl 0 rfl) ?_
    refine lv_iconst (v := 0) B.1 B.2.1 dX10_close_11 (by decide) ?_
    refine lv_iconst (v := 0) B.1 B.2.1 dX10_close_12 (by decide) ?_
    refine io_call_v Z (io_runV (ci := 10) (k := 111) [.int 0, .int 0] [] B Z (io_c_X10_gives l D ca ad A _ 0 0 _ hw) io_k_10_179 (io_hR (by decide) (by decide)) rfl (by decide) (io_e_111 _) rfl hl.1 (Nat.le_of_ble_eq_true rfl) dX10_close_13 ⟨Nat.le_refl _, Nat.le_refl _⟩) (fun s9 H locs hw Z => ?_)
    exact io_ret_v B Z hr hlk hw dX10_close_16
def wj_X10_list_178 (σ : io_M) (x1 : Int32) (x2 : Int32) (x3 : Int32) (post : io_M → Prop) : Prop := (vp_in x1 60 ∧ (((σ 118 (x1).toNatClampNeg) = 9 → (vp_in x2 20 ∧ (wp_X10_gives σ 0 (σ 136 (x2).toNatClampNeg) (fun s108 => post s108)))) ∧ (¬ ((σ 118 (x1).toNatClampNeg) = 9) → (vp_in x2 20 ∧ (((σ 136 (x2).toNatClampNeg) ≤ x3 → (wp_X10_gives σ 0 (-1) (fun s104 => post s104))) ∧ (¬ ((σ 136 (x2).toNatClampNeg) ≤ x3) → (vp_in ((40 * x2) + x3) 800 ∧ (wp_X10_gives σ 0 ((σ 137 (((40 * x2) + x3)).toNatClampNeg) &&& 255) (fun s106 => post s106)))))))))
def wl_X10_list_19 : Nat → io_M → Int32 → Int32 → Int32 → Int32 → (io_M → Prop) → Prop
  | 0, _, _, _, _, _, _ => False
  | n + 1, σ, x1, x2, x3, x4, post => (vp_in x2 20 ∧ ((x3 < (σ 136 (x2).toNatClampNeg) → wj_X10_list_178 σ x1 x2 x3 post) ∧ (¬ (x3 < (σ 136 (x2).toNatClampNeg)) → (vp_in x2 20 ∧ (((σ 138 (x2).toNatClampNeg) = 0 → (vp_in x4 20 ∧ (((σ 127 (x4).toNatClampNeg) = 2 → (vp_in x2 20 ∧ ∀ s219, s219 = io_up σ 138 (x2).toNatClampNeg ((vp_nar .boolean 1)) → wl_X10_list_19 n s219 x1 x2 x3 x4 post)) ∧ (¬ ((σ 127 (x4).toNatClampNeg) = 2) → (vp_in x4 20 ∧ (vp_in x4 20 ∧ (vp_in (σ 124 (x4).toNatClampNeg) 8 ∧ (((σ 126 (x4).toNatClampNeg) < (σ 113 ((σ 124 (x4).toNatClampNeg)).toNatClampNeg) → (vp_in x2 20 ∧ (vp_in x4 20 ∧ (vp_in x4 20 ∧ (vp_in ((40 * (σ 124 (x4).toNatClampNeg)) + (σ 126 (x4).toNatClampNeg)) 320 ∧ (vp_in ((40 * x2) + (σ 136 (x2).toNatClampNeg)) 800 ∧ ∀ s205, s205 = io_up σ 137 (((40 * x2) + (σ 136 (x2).toNatClampNeg))).toNatClampNeg (((σ 114 (((40 * (σ 124 (x4).toNatClampNeg)) + (σ 126 (x4).toNatClampNeg))).toNatClampNeg)).toInt8.toInt32) → (vp_in x2 20 ∧ (vp_in x2 20 ∧ ∀ s207, s207 = io_up s205 136 (x2).toNatClampNeg (((s205 136 (x2).toNatClampNeg) + 1)) → (vp_in x4 20 ∧ (vp_in x4 20 ∧ ∀ s209, s209 = io_up s207 126 (x4).toNatClampNeg (((s207 126 (x4).toNatClampNeg) + 1)) → (vp_in x4 20 ∧ (vp_in x4 20 ∧ ∀ s211, s211 = io_up s209 133 (x4).toNatClampNeg (((s209 133 (x4).toNatClampNeg) + 1)) → (wp_X10_note s211 x1 (fun s214 => wl_X10_list_19 n s214 x1 x2 x3 x4 post)))))))))))))) ∧ (¬ ((σ 126 (x4).toNatClampNeg) < (σ 113 ((σ 124 (x4).toNatClampNeg)).toNatClampNeg)) → (vp_in x2 20 ∧ ∀ s215, s215 = io_up σ 138 (x2).toNatClampNeg ((vp_nar .boolean 1)) → (vp_in x4 20 ∧ ∀ s217, s217 = io_up s215 127 (x4).toNatClampNeg (2) → wl_X10_list_19 n s217 x1 x2 x3 x4 post))))))))))) ∧ (¬ ((σ 138 (x2).toNatClampNeg) = 0) → wj_X10_list_178 σ x1 x2 x3 post))))))
def wp_X10_list (σ : io_M) (p1 : Int32) (p2 : Int32) (p3 : Int32) (post : io_M → Prop) : Prop := ((0 ≤ p3 → (vp_in p2 20 ∧ (∃ n, wl_X10_list_19 n σ p1 p2 p3 (σ 135 (p2).toNatClampNeg) post))) ∧ (¬ (0 ≤ p3) → (wp_X10_fails σ p1 4 (fun s4 => post s4))))
set_option maxHeartbeats 4000000 in
set_option maxRecDepth 100000 in
theorem io_c_X10_list (l : Launch) (D : va_G) (ca : Nat → ClassId) (ad : Nat → Nat) (A : Nat → Prop) (σ : io_M) (p1 : Int32) (p2 : Int32) (p3 : Int32) (post : io_M → Prop) (hw : wp_X10_list σ p1 p2 p3 post) : Met l yX10_list (.code yX10_list cX10_list 5 none :: io_tb) (io_rm 1) (va_Pc [.ref (ad 111), .int p1, .int p2, .int p3] (io_W D ca ad A σ)) (va_Qv post (io_W D ca ad A) A) 0 0 A := by
  refine Met.ofW (cc := cX10_list) (maxL := 5) (ret := none) (by decide) rfl ?_
  intro p e s m args below meth c s₁ Bd hml hv
  obtain ⟨rfl, hW0⟩ := hv
  have Z := io_Z.start hW0
  have B : CallFix p m c cX10_list 5 s _ io_tb RX10 := ⟨Bd.exec, Bd.bytes, hml, findClass_of_methodNamed Bd.named, fun w hw => atoms_spec (ws := (.code yX10_list cX10_list 5 none :: io_tb)) Bd.pre w (List.mem_cons_of_mem _ hw)⟩
  have hr := Bd.returns
  have hlk := Bd.notSynchronized
  have hl := lv_entry ([.ref (ad 111), .int p1, .int p2, .int p3]) (n := 5) (Nat.le_of_ble_eq_true rfl)
  rw [lg_entry_eq]
  generalize (lg_sl ([.ref (ad 111), .int p1, .int p2, .int p3]) ++ List.replicate (5 - (lg_sl ([.ref (ad 111), .int p1, .int p2, .int p3])).length) Slot.unset).toArray = ls at hl ⊢
  have hl : lv_has ls 5 [(0, .ref (ad 111)), (1, .int p1), (2, .int p2), (3, .int p3)] := hl
  show W p l e (io_rm 1) s m _ below meth c s.heap [] 0 0 _ (F0 m 0 ls [])
  have JN178 : ∀ (σ : io_M) (x1 : Int32) (x2 : Int32) (x3 : Int32), wj_X10_list_178 σ x1 x2 x3 post → ∀ (H : Heap) (locs : List Loc), io_Z D ca ad A s H locs σ → ∀ ls : Array Slot, lv_has ls 5 [(0, .ref (ad 111)), (1, .int x1), (2, .int x2), (3, .int x3)] → W p l e (io_rm 1) s m ([.ref (ad 111), .int p1, .int p2, .int p3] : List Value).toArray below meth c H locs 0 0 (MQ below (va_Qv post (io_W D ca ad A) A) ([.ref (ad 111), .int p1, .int p2, .int p3] : List Value).toArray s 0 0 A) (F0 m 178 ls []) := by
    intro σ x1 x2 x3 hw H locs Z ls hl
    unfold wj_X10_list_178 at hw
    refine lv_aload_n B.1 B.2.1 dX10_list_178 rfl (lv_at hl 0 rfl) ?_
    refine lv_iconst (v := 0) B.1 B.2.1 dX10_list_179 (by decide) ?_
    refine lv_aload_n B.1 B.2.1 dX10_list_180 rfl (lv_at hl 0 rfl) ?_
    refine io_g_10_10 B Z dX10_list_181 ?_
    refine lv_iload_n B.1 B.2.1 dX10_list_184 rfl (lv_at hl 1 rfl) ?_
    refine io_iald B Z 118 (by decide) io_e_118 hw.1 dX10_list_185 ?_
    have hw := hw.2
    refine lv_bipush (v := 9) B.1 B.2.1 dX10_list_186 (by decide) ?_
    refine lv_icmp_ne (tgt := 200) B.1 B.2.1 dX10_list_188 (by decide) (fun k101 => ?_) (fun k101 => ?_)
    · have hw := hw.2 k101
      refine lv_iload_n B.1 B.2.1 dX10_list_200 rfl (lv_at hl 3 rfl) ?_
      refine lv_aload_n B.1 B.2.1 dX10_list_201 rfl (lv_at hl 0 rfl) ?_
      refine io_g_10_30 B Z dX10_list_202 ?_
      refine lv_iload_n B.1 B.2.1 dX10_list_205 rfl (lv_at hl 2 rfl) ?_
      refine io_iald B Z 136 (by decide) io_e_136 hw.1 dX10_list_206 ?_
      have hw := hw.2
      refine lv_icmp_ge (tgt := 228) B.1 B.2.1 dX10_list_207 (by decide) (fun k102 => ?_) (fun k102 => ?_)
      · have hw := hw.1 k102
        refine lv_iconst (v := (-1)) B.1 B.2.1 dX10_list_228 (by decide) ?_
        refine io_call_v Z (io_runV (ci := 10) (k := 111) [.int 0, .int (-1)] [] B Z (io_c_X10_gives l D ca ad A _ 0 (-1) _ hw) io_k_10_179 (io_hR (by decide) (by decide)) rfl (by decide) (io_e_111 _) rfl hl.1 (Nat.le_of_ble_eq_true rfl) dX10_list_229 ⟨Nat.le_refl _, Nat.le_refl _⟩) (fun s104 H locs hw Z => ?_)
        exact io_ret_v B Z hr hlk hw dX10_list_232
      · have hw := hw.2 k102
        refine lv_aload_n B.1 B.2.1 dX10_list_210 rfl (lv_at hl 0 rfl) ?_
        refine io_g_10_31 B Z dX10_list_211 ?_
        refine lv_bipush (v := 40) B.1 B.2.1 dX10_list_214 (by decide) ?_
        refine lv_iload_n B.1 B.2.1 dX10_list_216 rfl (lv_at hl 2 rfl) ?_
        refine lv_imul B.1 B.2.1 dX10_list_217 ?_
        refine lv_iload_n B.1 B.2.1 dX10_list_218 rfl (lv_at hl 3 rfl) ?_
        refine lv_iadd B.1 B.2.1 dX10_list_219 ?_
        refine io_bald B Z 137 (by decide) io_e_137 hw.1 dX10_list_220 ?_
        have hw := hw.2
        refine lv_sipush (v := 255) B.1 B.2.1 dX10_list_221 (by decide) ?_
        refine lv_iand B.1 B.2.1 dX10_list_224 ?_
        refine lv_goto (tgt := 229) B.1 B.2.1 dX10_list_225 (by decide) ?_
        refine io_call_v Z (io_runV (ci := 10) (k := 111) [.int 0, .int ((σ 137 (((40 * x2) + x3)).toNatClampNeg) &&& 255)] [] B Z (io_c_X10_gives l D ca ad A _ 0 ((σ 137 (((40 * x2) + x3)).toNatClampNeg) &&& 255) _ hw) io_k_10_179 (io_hR (by decide) (by decide)) rfl (by decide) (io_e_111 _) rfl hl.1 (Nat.le_of_ble_eq_true rfl) dX10_list_229 ⟨Nat.le_refl _, Nat.le_refl _⟩) (fun s106 H locs hw Z => ?_)
        exact io_ret_v B Z hr hlk hw dX10_list_232
    · have hw := hw.1 k101
      refine lv_aload_n B.1 B.2.1 dX10_list_191 rfl (lv_at hl 0 rfl) ?_
      refine io_g_10_30 B Z dX10_list_192 ?_
      refine lv_iload_n B.1 B.2.1 dX10_list_195 rfl (lv_at hl 2 rfl) ?_
      refine io_iald B Z 136 (by decide) io_e_136 hw.1 dX10_list_196 ?_
      have hw := hw.2
      refine lv_goto (tgt := 229) B.1 B.2.1 dX10_list_197 (by decide) ?_
      refine io_call_v Z (io_runV (ci := 10) (k := 111) [.int 0, .int (σ 136 (x2).toNatClampNeg)] [] B Z (io_c_X10_gives l D ca ad A _ 0 (σ 136 (x2).toNatClampNeg) _ hw) io_k_10_179 (io_hR (by decide) (by decide)) rfl (by decide) (io_e_111 _) rfl hl.1 (Nat.le_of_ble_eq_true rfl) dX10_list_229 ⟨Nat.le_refl _, Nat.le_refl _⟩) (fun s108 H locs hw Z => ?_)
      exact io_ret_v B Z hr hlk hw dX10_list_232
  have LP19 : ∀ (n : Nat) (σ : io_M) (x1 : Int32) (x2 : Int32) (x3 : Int32) (x4 : Int32), wl_X10_list_19 n σ x1 x2 x3 x4 post → ∀ (H : Heap) (locs : List Loc), io_Z D ca ad A s H locs σ → ∀ ls : Array Slot, lv_has ls 5 [(0, .ref (ad 111)), (1, .int x1), (2, .int x2), (3, .int x3), (4, .int x4)] → W p l e (io_rm 1) s m ([.ref (ad 111), .int p1, .int p2, .int p3] : List Value).toArray below meth c H locs 0 0 (MQ below (va_Qv post (io_W D ca ad A) A) ([.ref (ad 111), .int p1, .int p2, .int p3] : List Value).toArray s 0 0 A) (F0 m 19 ls []) := by
    intro n
    induction n with
    | zero =>
      intro σ x1 x2 x3 x4 hw
      exact hw.elim
    | succ n IH19 =>
      intro σ x1 x2 x3 x4 hw H locs Z ls hl
      unfold wl_X10_list_19 at hw
      refine lv_aload_n B.1 B.2.1 dX10_list_19 rfl (lv_at hl 0 rfl) ?_
      refine io_g_10_30 B Z dX10_list_20 ?_
      refine lv_iload_n B.1 B.2.1 dX10_list_23 rfl (lv_at hl 2 rfl) ?_
      refine io_iald B Z 136 (by decide) io_e_136 hw.1 dX10_list_24 ?_
      have hw := hw.2
      refine lv_iload_n B.1 B.2.1 dX10_list_25 rfl (lv_at hl 3 rfl) ?_
      refine lv_icmp_gt (tgt := 178) B.1 B.2.1 dX10_list_26 (by decide) (fun k201 => ?_) (fun k201 => ?_)
      · have hw := hw.1 k201
        exact JN178 _ x1 x2 x3 hw _ _ Z _ (lv_sub (l' := [(0, .ref (ad 111)), (1, .int x1), (2, .int x2), (3, .int x3)]) hl [0, 1, 2, 3] rfl)
      · have hw := hw.2 k201
        refine lv_aload_n B.1 B.2.1 dX10_list_29 rfl (lv_at hl 0 rfl) ?_
        refine io_g_10_32 B Z dX10_list_30 ?_
        refine lv_iload_n B.1 B.2.1 dX10_list_33 rfl (lv_at hl 2 rfl) ?_
        refine io_zald B Z 138 (by decide) io_e_138 hw.1 dX10_list_34 ?_
        have hw := hw.2
        refine lv_if_ne (tgt := 178) B.1 B.2.1 dX10_list_35 (by decide) (fun k202 => ?_) (fun k202 => ?_)
        · have hw := hw.2 k202
          exact JN178 _ x1 x2 x3 hw _ _ Z _ (lv_sub (l' := [(0, .ref (ad 111)), (1, .int x1), (2, .int x2), (3, .int x3)]) hl [0, 1, 2, 3] rfl)
        · have hw := hw.1 k202
          refine lv_aload_n B.1 B.2.1 dX10_list_38 rfl (lv_at hl 0 rfl) ?_
          refine io_g_10_20 B Z dX10_list_39 ?_
          refine lv_iload B.1 B.2.1 dX10_list_42 (lv_at hl 4 rfl) ?_
          refine io_iald B Z 127 (by decide) io_e_127 hw.1 dX10_list_44 ?_
          have hw := hw.2
          refine lv_iconst (v := 2) B.1 B.2.1 dX10_list_45 (by decide) ?_
          refine lv_icmp_ne (tgt := 59) B.1 B.2.1 dX10_list_46 (by decide) (fun k203 => ?_) (fun k203 => ?_)
          · have hw := hw.2 k203
            refine lv_aload_n B.1 B.2.1 dX10_list_59 rfl (lv_at hl 0 rfl) ?_
            refine io_g_10_19 B Z dX10_list_60 ?_
            refine lv_iload B.1 B.2.1 dX10_list_63 (lv_at hl 4 rfl) ?_
            refine io_iald B Z 126 (by decide) io_e_126 hw.1 dX10_list_65 ?_
            have hw := hw.2
            refine lv_aload_n B.1 B.2.1 dX10_list_66 rfl (lv_at hl 0 rfl) ?_
            refine io_g_10_1 B Z dX10_list_67 ?_
            refine lv_aload_n B.1 B.2.1 dX10_list_70 rfl (lv_at hl 0 rfl) ?_
            refine io_g_10_17 B Z dX10_list_71 ?_
            refine lv_iload B.1 B.2.1 dX10_list_74 (lv_at hl 4 rfl) ?_
            refine io_iald B Z 124 (by decide) io_e_124 hw.1 dX10_list_76 ?_
            have hw := hw.2
            refine io_iald B Z 113 (by decide) io_e_113 hw.1 dX10_list_77 ?_
            have hw := hw.2
            refine lv_icmp_lt (tgt := 99) B.1 B.2.1 dX10_list_78 (by decide) (fun k204 => ?_) (fun k204 => ?_)
            · have hw := hw.1 k204
              refine lv_aload_n B.1 B.2.1 dX10_list_99 rfl (lv_at hl 0 rfl) ?_
              refine io_g_10_31 B Z dX10_list_100 ?_
              refine lv_bipush (v := 40) B.1 B.2.1 dX10_list_103 (by decide) ?_
              refine lv_iload_n B.1 B.2.1 dX10_list_105 rfl (lv_at hl 2 rfl) ?_
              refine lv_imul B.1 B.2.1 dX10_list_106 ?_
              refine lv_aload_n B.1 B.2.1 dX10_list_107 rfl (lv_at hl 0 rfl) ?_
              refine io_g_10_30 B Z dX10_list_108 ?_
              refine lv_iload_n B.1 B.2.1 dX10_list_111 rfl (lv_at hl 2 rfl) ?_
              refine io_iald B Z 136 (by decide) io_e_136 hw.1 dX10_list_112 ?_
              have hw := hw.2
              refine lv_iadd B.1 B.2.1 dX10_list_113 ?_
              refine lv_aload_n B.1 B.2.1 dX10_list_114 rfl (lv_at hl 0 rfl) ?_
              refine io_g_10_2 B Z dX10_list_115 ?_
              refine lv_bipush (v := 40) B.1 B.2.1 dX10_list_118 (by decide) ?_
              refine lv_aload_n B.1 B.2.1 dX10_list_120 rfl (lv_at hl 0 rfl) ?_
              refine io_g_10_17 B Z dX10_list_121 ?_
              refine lv_iload B.1 B.2.1 dX10_list_124 (lv_at hl 4 rfl) ?_
              refine io_iald B Z 124 (by decide) io_e_124 hw.1 dX10_list_126 ?_
              have hw := hw.2
              refine lv_imul B.1 B.2.1 dX10_list_127 ?_
              refine lv_aload_n B.1 B.2.1 dX10_list_128 rfl (lv_at hl 0 rfl) ?_
              refine io_g_10_19 B Z dX10_list_129 ?_
              refine lv_iload B.1 B.2.1 dX10_list_132 (lv_at hl 4 rfl) ?_
              refine io_iald B Z 126 (by decide) io_e_126 hw.1 dX10_list_134 ?_
              have hw := hw.2
              refine lv_iadd B.1 B.2.1 dX10_list_135 ?_
              refine io_bald B Z 114 (by decide) io_e_114 hw.1 dX10_list_136 ?_
              have hw := hw.2
              refine io_bast B Z 137 (by decide) io_e_137 hw.1 dX10_list_137 (fun s205 H locs e206 Z => ?_)
              have hw := hw.2 s205 e206
              refine lv_aload_n B.1 B.2.1 dX10_list_138 rfl (lv_at hl 0 rfl) ?_
              refine io_g_10_30 B Z dX10_list_139 ?_
              refine lv_iload_n B.1 B.2.1 dX10_list_142 rfl (lv_at hl 2 rfl) ?_
              refine lv_dup2_11 B.1 B.2.1 dX10_list_143 rfl rfl ?_
              refine io_iald B Z 136 (by decide) io_e_136 hw.1 dX10_list_144 ?_
              have hw := hw.2
              refine lv_iconst (v := 1) B.1 B.2.1 dX10_list_145 (by decide) ?_
              refine lv_iadd B.1 B.2.1 dX10_list_146 ?_
              refine io_iast B Z 136 (by decide) io_e_136 hw.1 dX10_list_147 (fun s207 H locs e208 Z => ?_)
              have hw := hw.2 s207 e208
              refine lv_aload_n B.1 B.2.1 dX10_list_148 rfl (lv_at hl 0 rfl) ?_
              refine io_g_10_19 B Z dX10_list_149 ?_
              refine lv_iload B.1 B.2.1 dX10_list_152 (lv_at hl 4 rfl) ?_
              refine lv_dup2_11 B.1 B.2.1 dX10_list_154 rfl rfl ?_
              refine io_iald B Z 126 (by decide) io_e_126 hw.1 dX10_list_155 ?_
              have hw := hw.2
              refine lv_iconst (v := 1) B.1 B.2.1 dX10_list_156 (by decide) ?_
              refine lv_iadd B.1 B.2.1 dX10_list_157 ?_
              refine io_iast B Z 126 (by decide) io_e_126 hw.1 dX10_list_158 (fun s209 H locs e210 Z => ?_)
              have hw := hw.2 s209 e210
              refine lv_aload_n B.1 B.2.1 dX10_list_159 rfl (lv_at hl 0 rfl) ?_
              refine io_g_10_26 B Z dX10_list_160 ?_
              refine lv_iload B.1 B.2.1 dX10_list_163 (lv_at hl 4 rfl) ?_
              refine lv_dup2_11 B.1 B.2.1 dX10_list_165 rfl rfl ?_
              refine io_iald B Z 133 (by decide) io_e_133 hw.1 dX10_list_166 ?_
              have hw := hw.2
              refine lv_iconst (v := 1) B.1 B.2.1 dX10_list_167 (by decide) ?_
              refine lv_iadd B.1 B.2.1 dX10_list_168 ?_
              refine io_iast B Z 133 (by decide) io_e_133 hw.1 dX10_list_169 (fun s211 H locs e212 Z => ?_)
              have hw := hw.2 s211 e212
              refine lv_aload_n B.1 B.2.1 dX10_list_170 rfl (lv_at hl 0 rfl) ?_
              refine lv_iload_n B.1 B.2.1 dX10_list_171 rfl (lv_at hl 1 rfl) ?_
              refine io_call_v Z (io_runV (ci := 10) (k := 111) [.int x1] [] B Z (io_c_X10_note l D ca ad A _ x1 _ hw) io_k_10_175 (io_hR (by decide) (by decide)) rfl (by decide) (io_e_111 _) rfl hl.1 (Nat.le_of_ble_eq_true rfl) dX10_list_172 ⟨Nat.le_refl _, Nat.le_refl _⟩) (fun s214 H locs hw Z => ?_)
              refine lv_goto (tgt := 19) B.1 B.2.1 dX10_list_175 (by decide) ?_
              exact IH19 _ x1 x2 x3 x4 hw _ _ Z _ (lv_sub (l' := [(0, .ref (ad 111)), (1, .int x1), (2, .int x2), (3, .int x3), (4, .int x4)]) hl [0, 1, 2, 3, 4] rfl)
            · have hw := hw.2 k204
              refine lv_aload_n B.1 B.2.1 dX10_list_81 rfl (lv_at hl 0 rfl) ?_
              refine io_g_10_32 B Z dX10_list_82 ?_
              refine lv_iload_n B.1 B.2.1 dX10_list_85 rfl (lv_at hl 2 rfl) ?_
              refine lv_iconst (v := 1) B.1 B.2.1 dX10_list_86 (by decide) ?_
              refine io_zast B Z 138 (by decide) io_e_138 hw.1 dX10_list_87 (fun s215 H locs e216 Z => ?_)
              have hw := hw.2 s215 e216
              refine lv_aload_n B.1 B.2.1 dX10_list_88 rfl (lv_at hl 0 rfl) ?_
              refine io_g_10_20 B Z dX10_list_89 ?_
              refine lv_iload B.1 B.2.1 dX10_list_92 (lv_at hl 4 rfl) ?_
              refine lv_iconst (v := 2) B.1 B.2.1 dX10_list_94 (by decide) ?_
              refine io_iast B Z 127 (by decide) io_e_127 hw.1 dX10_list_95 (fun s217 H locs e218 Z => ?_)
              have hw := hw.2 s217 e218
              refine lv_goto (tgt := 19) B.1 B.2.1 dX10_list_96 (by decide) ?_
              exact IH19 _ x1 x2 x3 x4 hw _ _ Z _ (lv_sub (l' := [(0, .ref (ad 111)), (1, .int x1), (2, .int x2), (3, .int x3), (4, .int x4)]) hl [0, 1, 2, 3, 4] rfl)
          · have hw := hw.1 k203
            refine lv_aload_n B.1 B.2.1 dX10_list_49 rfl (lv_at hl 0 rfl) ?_
            refine io_g_10_32 B Z dX10_list_50 ?_
            refine lv_iload_n B.1 B.2.1 dX10_list_53 rfl (lv_at hl 2 rfl) ?_
            refine lv_iconst (v := 1) B.1 B.2.1 dX10_list_54 (by decide) ?_
            refine io_zast B Z 138 (by decide) io_e_138 hw.1 dX10_list_55 (fun s219 H locs e220 Z => ?_)
            have hw := hw.2 s219 e220
            refine lv_goto (tgt := 19) B.1 B.2.1 dX10_list_56 (by decide) ?_
            exact IH19 _ x1 x2 x3 x4 hw _ _ Z _ (lv_sub (l' := [(0, .ref (ad 111)), (1, .int x1), (2, .int x2), (3, .int x3), (4, .int x4)]) hl [0, 1, 2, 3, 4] rfl)
  unfold wp_X10_list at hw
  refine lv_iload_n B.1 B.2.1 dX10_list_0 rfl (lv_at hl 3 rfl) ?_
  refine lv_if_ge (tgt := 11) B.1 B.2.1 dX10_list_1 (by decide) (fun k2 => ?_) (fun k2 => ?_)
  · have hw := hw.1 k2
    refine lv_aload_n B.1 B.2.1 dX10_list_11 rfl (lv_at hl 0 rfl) ?_
    refine io_g_10_29 B Z dX10_list_12 ?_
    refine lv_iload_n B.1 B.2.1 dX10_list_15 rfl (lv_at hl 2 rfl) ?_
    refine io_iald B Z 135 (by decide) io_e_135 hw.1 dX10_list_16 ?_
    have hw := hw.2
    refine lv_istore (lv' := [(4, .int (σ 135 (p2).toNatClampNeg)), (0, .ref (ad 111)), (1, .int p1), (2, .int p2), (3, .int p3)]) B.1 B.2.1 dX10_list_17 hl (by decide) rfl (fun ls hl => ?_)
    obtain ⟨n, hw⟩ := hw
    exact LP19 n _ p1 p2 p3 (σ 135 (p2).toNatClampNeg) hw _ _ Z _ (lv_sub (l' := [(0, .ref (ad 111)), (1, .int p1), (2, .int p2), (3, .int p3), (4, .int (σ 135 (p2).toNatClampNeg))]) hl [1, 2, 3, 4, 0] rfl)
  · have hw := hw.2 k2
    refine lv_aload_n B.1 B.2.1 dX10_list_4 rfl (lv_at hl 0 rfl) ?_
    refine lv_iload_n B.1 B.2.1 dX10_list_5 rfl (lv_at hl 1 rfl) ?_
    refine lv_iconst (v := 4) B.1 B.2.1 dX10_list_6 (by decide) ?_
    refine io_call_v Z (io_runV (ci := 10) (k := 111) [.int p1, .int 4] [] B Z (io_c_X10_fails l D ca ad A _ p1 4 _ hw) io_k_10_171 (io_hR (by decide) (by decide)) rfl (by decide) (io_e_111 _) rfl hl.1 (Nat.le_of_ble_eq_true rfl) dX10_list_7 ⟨Nat.le_refl _, Nat.le_refl _⟩) (fun s4 H locs hw Z => ?_)
    exact io_ret_v B Z hr hlk hw dX10_list_10
def wp_X10_take (σ : io_M) (p1 : Int32) (p2 : Int32) (post : io_M → Prop) : Prop := (vp_in p2 20 ∧ (((σ 125 (p2).toNatClampNeg) = 1 → (wp_X10_fails σ p1 4 (fun s4 => post s4))) ∧ (¬ ((σ 125 (p2).toNatClampNeg) = 1) → (vp_in p2 20 ∧ (((σ 125 (p2).toNatClampNeg) = 2 → (wp_X10_fails σ p1 4 (fun s24 => post s24))) ∧ (¬ ((σ 125 (p2).toNatClampNeg) = 2) → (wp_X10_flush σ p2 (fun r6 s7 => ((r6 = 0 → (wp_X10_fails s7 p1 5 (fun s22 => post s22))) ∧ (¬ (r6 = 0) → (vp_in p2 20 ∧ (vp_in p2 20 ∧ (vp_in (s7 124 (p2).toNatClampNeg) 8 ∧ (((s7 126 (p2).toNatClampNeg) < (s7 113 ((s7 124 (p2).toNatClampNeg)).toNatClampNeg) → (vp_in p2 20 ∧ (vp_in p2 20 ∧ (vp_in ((40 * (s7 124 (p2).toNatClampNeg)) + (s7 126 (p2).toNatClampNeg)) 320 ∧ (vp_in p2 20 ∧ (vp_in p2 20 ∧ ∀ s11, s11 = io_up s7 126 (p2).toNatClampNeg (((s7 126 (p2).toNatClampNeg) + 1)) → (vp_in p2 20 ∧ (vp_in p2 20 ∧ ∀ s13, s13 = io_up s11 133 (p2).toNatClampNeg (((s11 133 (p2).toNatClampNeg) + 1)) → (wp_X10_note s13 p1 (fun s16 => (wp_X10_gives s16 0 ((s7 114 (((40 * (s7 124 (p2).toNatClampNeg)) + (s7 126 (p2).toNatClampNeg))).toNatClampNeg) &&& 255) (fun s18 => post s18)))))))))))) ∧ (¬ ((s7 126 (p2).toNatClampNeg) < (s7 113 ((s7 124 (p2).toNatClampNeg)).toNatClampNeg)) → (wp_X10_fails s7 p1 3 (fun s20 => post s20)))))))))))))))))
set_option maxHeartbeats 4000000 in
set_option maxRecDepth 100000 in
theorem io_c_X10_take (l : Launch) (D : va_G) (ca : Nat → ClassId) (ad : Nat → Nat) (A : Nat → Prop) (σ : io_M) (p1 : Int32) (p2 : Int32) (post : io_M → Prop) (hw : wp_X10_take σ p1 p2 post) : Met l yX10_take (.code yX10_take cX10_take 4 none :: io_tb) (io_rm 2) (va_Pc [.ref (ad 111), .int p1, .int p2] (io_W D ca ad A σ)) (va_Qv post (io_W D ca ad A) A) 0 0 A := by
  refine Met.ofW (cc := cX10_take) (maxL := 4) (ret := none) (by decide) rfl ?_
  intro p e s m args below meth c s₁ Bd hml hv
  obtain ⟨rfl, hW0⟩ := hv
  have Z := io_Z.start hW0
  have B : CallFix p m c cX10_take 4 s _ io_tb RX10 := ⟨Bd.exec, Bd.bytes, hml, findClass_of_methodNamed Bd.named, fun w hw => atoms_spec (ws := (.code yX10_take cX10_take 4 none :: io_tb)) Bd.pre w (List.mem_cons_of_mem _ hw)⟩
  have hr := Bd.returns
  have hlk := Bd.notSynchronized
  have hl := lv_entry ([.ref (ad 111), .int p1, .int p2]) (n := 4) (Nat.le_of_ble_eq_true rfl)
  rw [lg_entry_eq]
  generalize (lg_sl ([.ref (ad 111), .int p1, .int p2]) ++ List.replicate (4 - (lg_sl ([.ref (ad 111), .int p1, .int p2])).length) Slot.unset).toArray = ls at hl ⊢
  have hl : lv_has ls 4 [(0, .ref (ad 111)), (1, .int p1), (2, .int p2)] := hl
  show W p l e (io_rm 2) s m _ below meth c s.heap [] 0 0 _ (F0 m 0 ls [])
  unfold wp_X10_take at hw
  refine lv_aload_n B.1 B.2.1 dX10_take_0 rfl (lv_at hl 0 rfl) ?_
  refine io_g_10_18 B Z dX10_take_1 ?_
  refine lv_iload_n B.1 B.2.1 dX10_take_4 rfl (lv_at hl 2 rfl) ?_
  refine io_iald B Z 125 (by decide) io_e_125 hw.1 dX10_take_5 ?_
  have hw := hw.2
  refine lv_iconst (v := 1) B.1 B.2.1 dX10_take_6 (by decide) ?_
  refine lv_icmp_eq (tgt := 20) B.1 B.2.1 dX10_take_7 (by decide) (fun k2 => ?_) (fun k2 => ?_)
  · have hw := hw.1 k2
    refine lv_aload_n B.1 B.2.1 dX10_take_20 rfl (lv_at hl 0 rfl) ?_
    refine lv_iload_n B.1 B.2.1 dX10_take_21 rfl (lv_at hl 1 rfl) ?_
    refine lv_iconst (v := 4) B.1 B.2.1 dX10_take_22 (by decide) ?_
    refine io_call_v Z (io_runV (ci := 10) (k := 111) [.int p1, .int 4] [] B Z (io_c_X10_fails l D ca ad A _ p1 4 _ hw) io_k_10_171 (io_hR (by decide) (by decide)) rfl (by decide) (io_e_111 _) rfl hl.1 (Nat.le_of_ble_eq_true rfl) dX10_take_23 ⟨Nat.le_refl _, Nat.le_refl _⟩) (fun s4 H locs hw Z => ?_)
    refine lv_goto (tgt := 132) B.1 B.2.1 dX10_take_26 (by decide) ?_
    exact io_ret_v B Z hr hlk hw dX10_take_132
  · have hw := hw.2 k2
    refine lv_aload_n B.1 B.2.1 dX10_take_10 rfl (lv_at hl 0 rfl) ?_
    refine io_g_10_18 B Z dX10_take_11 ?_
    refine lv_iload_n B.1 B.2.1 dX10_take_14 rfl (lv_at hl 2 rfl) ?_
    refine io_iald B Z 125 (by decide) io_e_125 hw.1 dX10_take_15 ?_
    have hw := hw.2
    refine lv_iconst (v := 2) B.1 B.2.1 dX10_take_16 (by decide) ?_
    refine lv_icmp_ne (tgt := 29) B.1 B.2.1 dX10_take_17 (by decide) (fun k5 => ?_) (fun k5 => ?_)
    · have hw := hw.2 k5
      refine lv_aload_n B.1 B.2.1 dX10_take_29 rfl (lv_at hl 0 rfl) ?_
      refine lv_iload_n B.1 B.2.1 dX10_take_30 rfl (lv_at hl 2 rfl) ?_
      refine io_call_i Z (io_runV (ci := 10) (k := 111) [.int p2] [] B Z (io_c_X10_flush l D ca ad A _ p2 _ hw) io_k_10_263 (io_hR (by decide) (by decide)) rfl (by decide) (io_e_111 _) rfl hl.1 (Nat.le_of_ble_eq_true rfl) dX10_take_31 ⟨Nat.le_refl _, Nat.le_refl _⟩) (fun r6 s7 H locs hw Z => ?_)
      obtain ⟨b8, hw⟩ := hw
      refine lv_if_ne (tgt := 46) B.1 B.2.1 dX10_take_34 (by decide) (fun k9 => ?_) (fun k9 => ?_)
      · have hw := hw.2 k9
        refine lv_aload_n B.1 B.2.1 dX10_take_46 rfl (lv_at hl 0 rfl) ?_
        refine io_g_10_19 B Z dX10_take_47 ?_
        refine lv_iload_n B.1 B.2.1 dX10_take_50 rfl (lv_at hl 2 rfl) ?_
        refine io_iald B Z 126 (by decide) io_e_126 hw.1 dX10_take_51 ?_
        have hw := hw.2
        refine lv_aload_n B.1 B.2.1 dX10_take_52 rfl (lv_at hl 0 rfl) ?_
        refine io_g_10_1 B Z dX10_take_53 ?_
        refine lv_aload_n B.1 B.2.1 dX10_take_56 rfl (lv_at hl 0 rfl) ?_
        refine io_g_10_17 B Z dX10_take_57 ?_
        refine lv_iload_n B.1 B.2.1 dX10_take_60 rfl (lv_at hl 2 rfl) ?_
        refine io_iald B Z 124 (by decide) io_e_124 hw.1 dX10_take_61 ?_
        have hw := hw.2
        refine io_iald B Z 113 (by decide) io_e_113 hw.1 dX10_take_62 ?_
        have hw := hw.2
        refine lv_icmp_lt (tgt := 75) B.1 B.2.1 dX10_take_63 (by decide) (fun k10 => ?_) (fun k10 => ?_)
        · have hw := hw.1 k10
          refine lv_aload_n B.1 B.2.1 dX10_take_75 rfl (lv_at hl 0 rfl) ?_
          refine io_g_10_2 B Z dX10_take_76 ?_
          refine lv_bipush (v := 40) B.1 B.2.1 dX10_take_79 (by decide) ?_
          refine lv_aload_n B.1 B.2.1 dX10_take_81 rfl (lv_at hl 0 rfl) ?_
          refine io_g_10_17 B Z dX10_take_82 ?_
          refine lv_iload_n B.1 B.2.1 dX10_take_85 rfl (lv_at hl 2 rfl) ?_
          refine io_iald B Z 124 (by decide) io_e_124 hw.1 dX10_take_86 ?_
          have hw := hw.2
          refine lv_imul B.1 B.2.1 dX10_take_87 ?_
          refine lv_aload_n B.1 B.2.1 dX10_take_88 rfl (lv_at hl 0 rfl) ?_
          refine io_g_10_19 B Z dX10_take_89 ?_
          refine lv_iload_n B.1 B.2.1 dX10_take_92 rfl (lv_at hl 2 rfl) ?_
          refine io_iald B Z 126 (by decide) io_e_126 hw.1 dX10_take_93 ?_
          have hw := hw.2
          refine lv_iadd B.1 B.2.1 dX10_take_94 ?_
          refine io_bald B Z 114 (by decide) io_e_114 hw.1 dX10_take_95 ?_
          have hw := hw.2
          refine lv_sipush (v := 255) B.1 B.2.1 dX10_take_96 (by decide) ?_
          refine lv_iand B.1 B.2.1 dX10_take_99 ?_
          refine lv_istore_n (lv' := [(3, .int ((s7 114 (((40 * (s7 124 (p2).toNatClampNeg)) + (s7 126 (p2).toNatClampNeg))).toNatClampNeg) &&& 255)), (0, .ref (ad 111)), (1, .int p1), (2, .int p2)]) B.1 B.2.1 dX10_take_100 rfl hl (by decide) rfl (fun ls hl => ?_)
          refine lv_aload_n B.1 B.2.1 dX10_take_101 rfl (lv_at hl 1 rfl) ?_
          refine io_g_10_19 B Z dX10_take_102 ?_
          refine lv_iload_n B.1 B.2.1 dX10_take_105 rfl (lv_at hl 3 rfl) ?_
          refine lv_dup2_11 B.1 B.2.1 dX10_take_106 rfl rfl ?_
          refine io_iald B Z 126 (by decide) io_e_126 hw.1 dX10_take_107 ?_
          have hw := hw.2
          refine lv_iconst (v := 1) B.1 B.2.1 dX10_take_108 (by decide) ?_
          refine lv_iadd B.1 B.2.1 dX10_take_109 ?_
          refine io_iast B Z 126 (by decide) io_e_126 hw.1 dX10_take_110 (fun s11 H locs e12 Z => ?_)
          have hw := hw.2 s11 e12
          refine lv_aload_n B.1 B.2.1 dX10_take_111 rfl (lv_at hl 1 rfl) ?_
          refine io_g_10_26 B Z dX10_take_112 ?_
          refine lv_iload_n B.1 B.2.1 dX10_take_115 rfl (lv_at hl 3 rfl) ?_
          refine lv_dup2_11 B.1 B.2.1 dX10_take_116 rfl rfl ?_
          refine io_iald B Z 133 (by decide) io_e_133 hw.1 dX10_take_117 ?_
          have hw := hw.2
          refine lv_iconst (v := 1) B.1 B.2.1 dX10_take_118 (by decide) ?_
          refine lv_iadd B.1 B.2.1 dX10_take_119 ?_
          refine io_iast B Z 133 (by decide) io_e_133 hw.1 dX10_take_120 (fun s13 H locs e14 Z => ?_)
          have hw := hw.2 s13 e14
          refine lv_aload_n B.1 B.2.1 dX10_take_121 rfl (lv_at hl 1 rfl) ?_
          refine lv_iload_n B.1 B.2.1 dX10_take_122 rfl (lv_at hl 2 rfl) ?_
          refine io_call_v Z (io_runV (ci := 10) (k := 111) [.int p1] [] B Z (io_c_X10_note l D ca ad A _ p1 _ hw) io_k_10_175 (io_hR (by decide) (by decide)) rfl (by decide) (io_e_111 _) rfl hl.1 (Nat.le_of_ble_eq_true rfl) dX10_take_123 ⟨Nat.le_refl _, Nat.le_refl _⟩) (fun s16 H locs hw Z => ?_)
          refine lv_aload_n B.1 B.2.1 dX10_take_126 rfl (lv_at hl 1 rfl) ?_
          refine lv_iconst (v := 0) B.1 B.2.1 dX10_take_127 (by decide) ?_
          refine lv_iload_n B.1 B.2.1 dX10_take_128 rfl (lv_at hl 0 rfl) ?_
          refine io_call_v Z (io_runV (ci := 10) (k := 111) [.int 0, .int ((s7 114 (((40 * (s7 124 (p2).toNatClampNeg)) + (s7 126 (p2).toNatClampNeg))).toNatClampNeg) &&& 255)] [] B Z (io_c_X10_gives l D ca ad A _ 0 ((s7 114 (((40 * (s7 124 (p2).toNatClampNeg)) + (s7 126 (p2).toNatClampNeg))).toNatClampNeg) &&& 255) _ hw) io_k_10_179 (io_hR (by decide) (by decide)) rfl (by decide) (io_e_111 _) rfl hl.1 (Nat.le_of_ble_eq_true rfl) dX10_take_129 ⟨Nat.le_refl _, Nat.le_refl _⟩) (fun s18 H locs hw Z => ?_)
          exact io_ret_v B Z hr hlk hw dX10_take_132
        · have hw := hw.2 k10
          refine lv_aload_n B.1 B.2.1 dX10_take_66 rfl (lv_at hl 0 rfl) ?_
          refine lv_iload_n B.1 B.2.1 dX10_take_67 rfl (lv_at hl 1 rfl) ?_
          refine lv_iconst (v := 3) B.1 B.2.1 dX10_take_68 (by decide) ?_
          refine io_call_v Z (io_runV (ci := 10) (k := 111) [.int p1, .int 3] [] B Z (io_c_X10_fails l D ca ad A _ p1 3 _ hw) io_k_10_171 (io_hR (by decide) (by decide)) rfl (by decide) (io_e_111 _) rfl hl.1 (Nat.le_of_ble_eq_true rfl) dX10_take_69 ⟨Nat.le_refl _, Nat.le_refl _⟩) (fun s20 H locs hw Z => ?_)
          refine lv_goto (tgt := 132) B.1 B.2.1 dX10_take_72 (by decide) ?_
          exact io_ret_v B Z hr hlk hw dX10_take_132
      · have hw := hw.1 k9
        refine lv_aload_n B.1 B.2.1 dX10_take_37 rfl (lv_at hl 0 rfl) ?_
        refine lv_iload_n B.1 B.2.1 dX10_take_38 rfl (lv_at hl 1 rfl) ?_
        refine lv_iconst (v := 5) B.1 B.2.1 dX10_take_39 (by decide) ?_
        refine io_call_v Z (io_runV (ci := 10) (k := 111) [.int p1, .int 5] [] B Z (io_c_X10_fails l D ca ad A _ p1 5 _ hw) io_k_10_171 (io_hR (by decide) (by decide)) rfl (by decide) (io_e_111 _) rfl hl.1 (Nat.le_of_ble_eq_true rfl) dX10_take_40 ⟨Nat.le_refl _, Nat.le_refl _⟩) (fun s22 H locs hw Z => ?_)
        refine lv_goto (tgt := 132) B.1 B.2.1 dX10_take_43 (by decide) ?_
        exact io_ret_v B Z hr hlk hw dX10_take_132
    · have hw := hw.1 k5
      refine lv_aload_n B.1 B.2.1 dX10_take_20 rfl (lv_at hl 0 rfl) ?_
      refine lv_iload_n B.1 B.2.1 dX10_take_21 rfl (lv_at hl 1 rfl) ?_
      refine lv_iconst (v := 4) B.1 B.2.1 dX10_take_22 (by decide) ?_
      refine io_call_v Z (io_runV (ci := 10) (k := 111) [.int p1, .int 4] [] B Z (io_c_X10_fails l D ca ad A _ p1 4 _ hw) io_k_10_171 (io_hR (by decide) (by decide)) rfl (by decide) (io_e_111 _) rfl hl.1 (Nat.le_of_ble_eq_true rfl) dX10_take_23 ⟨Nat.le_refl _, Nat.le_refl _⟩) (fun s24 H locs hw Z => ?_)
      refine lv_goto (tgt := 132) B.1 B.2.1 dX10_take_26 (by decide) ?_
      exact io_ret_v B Z hr hlk hw dX10_take_132
def wp_X10_opened (σ : io_M) (p1 : Int32) (p2 : Int32) (p3 : Int32) (post : io_M → Prop) : Prop := ((p2 = 6 → (wp_X10_take σ p1 p3 (fun s4 => post s4))) ∧ (¬ (p2 = 6) → ((p2 = 7 → (vp_in p3 20 ∧ (((σ 125 (p3).toNatClampNeg) = 0 → (vp_in p3 20 ∧ ∀ s7, s7 = io_up σ 127 (p3).toNatClampNeg (1) → (vp_in (s7 111 28) 20 ∧ ∀ s9, s9 = io_up s7 135 ((s7 111 28)).toNatClampNeg (p3) → (vp_in (s9 111 28) 20 ∧ ∀ s11, s11 = io_up s9 136 ((s9 111 28)).toNatClampNeg (0) → (vp_in (s11 111 28) 20 ∧ ∀ s13, s13 = io_up s11 138 ((s11 111 28)).toNatClampNeg ((vp_nar .boolean 0)) → (∀ s15, s15 = io_up s13 111 28 ((s13 111 28) + 1) → (wp_X10_gives s15 2 ((s15 111 28) - 1) (fun s18 => post s18)))))))) ∧ (¬ ((σ 125 (p3).toNatClampNeg) = 0) → (wp_X10_fails σ p1 4 (fun s20 => post s20)))))) ∧ (¬ (p2 = 7) → ((p2 = 11 → (vp_in p3 20 ∧ (vp_in p3 20 ∧ (wp_X10_gives σ 0 ((σ 126 (p3).toNatClampNeg) + (σ 130 (p3).toNatClampNeg)) (fun s23 => post s23))))) ∧ (¬ (p2 = 11) → (wp_X10_flush σ p3 (fun r24 s25 => ((r24 = 0 → (wp_X10_fails s25 p1 5 (fun s45 => post s45))) ∧ (¬ (r24 = 0) → ((p2 = 12 → (vp_in p3 20 ∧ (vp_in (s25 124 (p3).toNatClampNeg) 8 ∧ (wp_X10_gives s25 0 (s25 113 ((s25 124 (p3).toNatClampNeg)).toNatClampNeg) (fun s43 => post s43))))) ∧ (¬ (p2 = 12) → ((p2 = 13 → (vp_in p1 60 ∧ (vp_in p3 20 ∧ ∀ s36, s36 = io_up s25 129 (p3).toNatClampNeg ((s25 120 (p1).toNatClampNeg)) → (wp_X10_note s36 p1 (fun s39 => (wp_X10_gives s39 0 0 (fun s41 => post s41))))))) ∧ (¬ (p2 = 13) → (vp_in p3 20 ∧ (vp_in p3 20 ∧ ∀ s30, s30 = io_up s25 129 (p3).toNatClampNeg ((s25 129 (p3).toNatClampNeg)) → (wp_X10_note s30 p1 (fun s33 => (wp_X10_gives s33 0 0 (fun s35 => post s35))))))))))))))))))))
set_option maxHeartbeats 4000000 in
set_option maxRecDepth 100000 in
theorem io_c_X10_opened (l : Launch) (D : va_G) (ca : Nat → ClassId) (ad : Nat → Nat) (A : Nat → Prop) (σ : io_M) (p1 : Int32) (p2 : Int32) (p3 : Int32) (post : io_M → Prop) (hw : wp_X10_opened σ p1 p2 p3 post) : Met l yX10_opened (.code yX10_opened cX10_opened 4 none :: io_tb) (io_rm 3) (va_Pc [.ref (ad 111), .int p1, .int p2, .int p3] (io_W D ca ad A σ)) (va_Qv post (io_W D ca ad A) A) 0 0 A := by
  refine Met.ofW (cc := cX10_opened) (maxL := 4) (ret := none) (by decide) rfl ?_
  intro p e s m args below meth c s₁ Bd hml hv
  obtain ⟨rfl, hW0⟩ := hv
  have Z := io_Z.start hW0
  have B : CallFix p m c cX10_opened 4 s _ io_tb RX10 := ⟨Bd.exec, Bd.bytes, hml, findClass_of_methodNamed Bd.named, fun w hw => atoms_spec (ws := (.code yX10_opened cX10_opened 4 none :: io_tb)) Bd.pre w (List.mem_cons_of_mem _ hw)⟩
  have hr := Bd.returns
  have hlk := Bd.notSynchronized
  have hl := lv_entry ([.ref (ad 111), .int p1, .int p2, .int p3]) (n := 4) (Nat.le_of_ble_eq_true rfl)
  rw [lg_entry_eq]
  generalize (lg_sl ([.ref (ad 111), .int p1, .int p2, .int p3]) ++ List.replicate (4 - (lg_sl ([.ref (ad 111), .int p1, .int p2, .int p3])).length) Slot.unset).toArray = ls at hl ⊢
  have hl : lv_has ls 4 [(0, .ref (ad 111)), (1, .int p1), (2, .int p2), (3, .int p3)] := hl
  show W p l e (io_rm 3) s m _ below meth c s.heap [] 0 0 _ (F0 m 0 ls [])
  unfold wp_X10_opened at hw
  refine lv_iload_n B.1 B.2.1 dX10_opened_0 rfl (lv_at hl 2 rfl) ?_
  rcases Classical.em (p2 = 6) with k2 | k2
  · have hw := hw.1 k2
    refine lv_lookup (tgt := 36) (off := 35) B.1 B.2.1 dX10_opened_1 (by decide) (by rw [k2]; rfl) (by decide) ?_
    refine lv_aload_n B.1 B.2.1 dX10_opened_36 rfl (lv_at hl 0 rfl) ?_
    refine lv_iload_n B.1 B.2.1 dX10_opened_37 rfl (lv_at hl 1 rfl) ?_
    refine lv_iload_n B.1 B.2.1 dX10_opened_38 rfl (lv_at hl 3 rfl) ?_
    refine io_call_v Z (io_runV (ci := 10) (k := 111) [.int p1, .int p3] [] B Z (io_c_X10_take l D ca ad A _ p1 p3 _ hw) io_k_10_266 (io_hR (by decide) (by decide)) rfl (by decide) (io_e_111 _) rfl hl.1 (Nat.le_of_ble_eq_true rfl) dX10_opened_39 ⟨Nat.le_refl _, Nat.le_refl _⟩) (fun s4 H locs hw Z => ?_)
    refine lv_goto (tgt := 225) B.1 B.2.1 dX10_opened_42 (by decide) ?_
    exact io_ret_v B Z hr hlk hw dX10_opened_225
  have hw := hw.2 k2
  rcases Classical.em (p2 = 7) with k5 | k5
  · have hw := hw.1 k5
    refine lv_lookup (tgt := 45) (off := 44) B.1 B.2.1 dX10_opened_1 (by decide) (by rw [k5]; rfl) (by decide) ?_
    refine lv_aload_n B.1 B.2.1 dX10_opened_45 rfl (lv_at hl 0 rfl) ?_
    refine io_g_10_18 B Z dX10_opened_46 ?_
    refine lv_iload_n B.1 B.2.1 dX10_opened_49 rfl (lv_at hl 3 rfl) ?_
    refine io_iald B Z 125 (by decide) io_e_125 hw.1 dX10_opened_50 ?_
    have hw := hw.2
    refine lv_if_eq (tgt := 63) B.1 B.2.1 dX10_opened_51 (by decide) (fun k6 => ?_) (fun k6 => ?_)
    · have hw := hw.1 k6
      refine lv_aload_n B.1 B.2.1 dX10_opened_63 rfl (lv_at hl 0 rfl) ?_
      refine io_g_10_20 B Z dX10_opened_64 ?_
      refine lv_iload_n B.1 B.2.1 dX10_opened_67 rfl (lv_at hl 3 rfl) ?_
      refine lv_iconst (v := 1) B.1 B.2.1 dX10_opened_68 (by decide) ?_
      refine io_iast B Z 127 (by decide) io_e_127 hw.1 dX10_opened_69 (fun s7 H locs e8 Z => ?_)
      have hw := hw.2 s7 e8
      refine lv_aload_n B.1 B.2.1 dX10_opened_70 rfl (lv_at hl 0 rfl) ?_
      refine io_g_10_29 B Z dX10_opened_71 ?_
      refine lv_aload_n B.1 B.2.1 dX10_opened_74 rfl (lv_at hl 0 rfl) ?_
      refine io_g_10_28 B Z dX10_opened_75 ?_
      refine lv_iload_n B.1 B.2.1 dX10_opened_78 rfl (lv_at hl 3 rfl) ?_
      refine io_iast B Z 135 (by decide) io_e_135 hw.1 dX10_opened_79 (fun s9 H locs e10 Z => ?_)
      have hw := hw.2 s9 e10
      refine lv_aload_n B.1 B.2.1 dX10_opened_80 rfl (lv_at hl 0 rfl) ?_
      refine io_g_10_30 B Z dX10_opened_81 ?_
      refine lv_aload_n B.1 B.2.1 dX10_opened_84 rfl (lv_at hl 0 rfl) ?_
      refine io_g_10_28 B Z dX10_opened_85 ?_
      refine lv_iconst (v := 0) B.1 B.2.1 dX10_opened_88 (by decide) ?_
      refine io_iast B Z 136 (by decide) io_e_136 hw.1 dX10_opened_89 (fun s11 H locs e12 Z => ?_)
      have hw := hw.2 s11 e12
      refine lv_aload_n B.1 B.2.1 dX10_opened_90 rfl (lv_at hl 0 rfl) ?_
      refine io_g_10_32 B Z dX10_opened_91 ?_
      refine lv_aload_n B.1 B.2.1 dX10_opened_94 rfl (lv_at hl 0 rfl) ?_
      refine io_g_10_28 B Z dX10_opened_95 ?_
      refine lv_iconst (v := 0) B.1 B.2.1 dX10_opened_98 (by decide) ?_
      refine io_zast B Z 138 (by decide) io_e_138 hw.1 dX10_opened_99 (fun s13 H locs e14 Z => ?_)
      have hw := hw.2 s13 e14
      refine lv_aload_n B.1 B.2.1 dX10_opened_100 rfl (lv_at hl 0 rfl) ?_
      refine lv_dup B.1 B.2.1 dX10_opened_101 rfl ?_
      refine io_g_10_28 B Z dX10_opened_102 ?_
      refine lv_iconst (v := 1) B.1 B.2.1 dX10_opened_105 (by decide) ?_
      refine lv_iadd B.1 B.2.1 dX10_opened_106 ?_
      refine io_p_10_28 B Z dX10_opened_107 (fun s15 H locs e16 Z => ?_)
      have hw := hw s15 e16
      refine lv_aload_n B.1 B.2.1 dX10_opened_110 rfl (lv_at hl 0 rfl) ?_
      refine lv_iconst (v := 2) B.1 B.2.1 dX10_opened_111 (by decide) ?_
      refine lv_aload_n B.1 B.2.1 dX10_opened_112 rfl (lv_at hl 0 rfl) ?_
      refine io_g_10_28 B Z dX10_opened_113 ?_
      refine lv_iconst (v := 1) B.1 B.2.1 dX10_opened_116 (by decide) ?_
      refine lv_isub B.1 B.2.1 dX10_opened_117 ?_
      refine io_call_v Z (io_runV (ci := 10) (k := 111) [.int 2, .int ((s15 111 28) - 1)] [] B Z (io_c_X10_gives l D ca ad A _ 2 ((s15 111 28) - 1) _ hw) io_k_10_179 (io_hR (by decide) (by decide)) rfl (by decide) (io_e_111 _) rfl hl.1 (Nat.le_of_ble_eq_true rfl) dX10_opened_118 ⟨Nat.le_refl _, Nat.le_refl _⟩) (fun s18 H locs hw Z => ?_)
      refine lv_goto (tgt := 225) B.1 B.2.1 dX10_opened_121 (by decide) ?_
      exact io_ret_v B Z hr hlk hw dX10_opened_225
    · have hw := hw.2 k6
      refine lv_aload_n B.1 B.2.1 dX10_opened_54 rfl (lv_at hl 0 rfl) ?_
      refine lv_iload_n B.1 B.2.1 dX10_opened_55 rfl (lv_at hl 1 rfl) ?_
      refine lv_iconst (v := 4) B.1 B.2.1 dX10_opened_56 (by decide) ?_
      refine io_call_v Z (io_runV (ci := 10) (k := 111) [.int p1, .int 4] [] B Z (io_c_X10_fails l D ca ad A _ p1 4 _ hw) io_k_10_171 (io_hR (by decide) (by decide)) rfl (by decide) (io_e_111 _) rfl hl.1 (Nat.le_of_ble_eq_true rfl) dX10_opened_57 ⟨Nat.le_refl _, Nat.le_refl _⟩) (fun s20 H locs hw Z => ?_)
      refine lv_goto (tgt := 225) B.1 B.2.1 dX10_opened_60 (by decide) ?_
      exact io_ret_v B Z hr hlk hw dX10_opened_225
  have hw := hw.2 k5
  rcases Classical.em (p2 = 11) with k21 | k21
  · have hw := hw.1 k21
    refine lv_lookup (tgt := 124) (off := 123) B.1 B.2.1 dX10_opened_1 (by decide) (by rw [k21]; rfl) (by decide) ?_
    refine lv_aload_n B.1 B.2.1 dX10_opened_124 rfl (lv_at hl 0 rfl) ?_
    refine lv_iconst (v := 0) B.1 B.2.1 dX10_opened_125 (by decide) ?_
    refine lv_aload_n B.1 B.2.1 dX10_opened_126 rfl (lv_at hl 0 rfl) ?_
    refine io_g_10_19 B Z dX10_opened_127 ?_
    refine lv_iload_n B.1 B.2.1 dX10_opened_130 rfl (lv_at hl 3 rfl) ?_
    refine io_iald B Z 126 (by decide) io_e_126 hw.1 dX10_opened_131 ?_
    have hw := hw.2
    refine lv_aload_n B.1 B.2.1 dX10_opened_132 rfl (lv_at hl 0 rfl) ?_
    refine io_g_10_23 B Z dX10_opened_133 ?_
    refine lv_iload_n B.1 B.2.1 dX10_opened_136 rfl (lv_at hl 3 rfl) ?_
    refine io_iald B Z 130 (by decide) io_e_130 hw.1 dX10_opened_137 ?_
    have hw := hw.2
    refine lv_iadd B.1 B.2.1 dX10_opened_138 ?_
    refine io_call_v Z (io_runV (ci := 10) (k := 111) [.int 0, .int ((σ 126 (p3).toNatClampNeg) + (σ 130 (p3).toNatClampNeg))] [] B Z (io_c_X10_gives l D ca ad A _ 0 ((σ 126 (p3).toNatClampNeg) + (σ 130 (p3).toNatClampNeg)) _ hw) io_k_10_179 (io_hR (by decide) (by decide)) rfl (by decide) (io_e_111 _) rfl hl.1 (Nat.le_of_ble_eq_true rfl) dX10_opened_139 ⟨Nat.le_refl _, Nat.le_refl _⟩) (fun s23 H locs hw Z => ?_)
    refine lv_goto (tgt := 225) B.1 B.2.1 dX10_opened_142 (by decide) ?_
    exact io_ret_v B Z hr hlk hw dX10_opened_225
  have hw := hw.2 k21
  refine lv_lookup (tgt := 145) (off := 144) B.1 B.2.1 dX10_opened_1 (by decide) (by rw [lv_osw k2 (by decide), lv_osw k5 (by decide), lv_osw k21 (by decide)]; rfl) (by decide) ?_
  refine lv_aload_n B.1 B.2.1 dX10_opened_145 rfl (lv_at hl 0 rfl) ?_
  refine lv_iload_n B.1 B.2.1 dX10_opened_146 rfl (lv_at hl 3 rfl) ?_
  refine io_call_i Z (io_runV (ci := 10) (k := 111) [.int p3] [] B Z (io_c_X10_flush l D ca ad A _ p3 _ hw) io_k_10_263 (io_hR (by decide) (by decide)) rfl (by decide) (io_e_111 _) rfl hl.1 (Nat.le_of_ble_eq_true rfl) dX10_opened_147 ⟨Nat.le_refl _, Nat.le_refl _⟩) (fun r24 s25 H locs hw Z => ?_)
  obtain ⟨b26, hw⟩ := hw
  refine lv_if_ne (tgt := 162) B.1 B.2.1 dX10_opened_150 (by decide) (fun k27 => ?_) (fun k27 => ?_)
  · have hw := hw.2 k27
    refine lv_iload_n B.1 B.2.1 dX10_opened_162 rfl (lv_at hl 2 rfl) ?_
    refine lv_bipush (v := 12) B.1 B.2.1 dX10_opened_163 (by decide) ?_
    refine lv_icmp_ne (tgt := 187) B.1 B.2.1 dX10_opened_165 (by decide) (fun k28 => ?_) (fun k28 => ?_)
    · have hw := hw.2 k28
      refine lv_aload_n B.1 B.2.1 dX10_opened_187 rfl (lv_at hl 0 rfl) ?_
      refine io_g_10_22 B Z dX10_opened_188 ?_
      refine lv_iload_n B.1 B.2.1 dX10_opened_191 rfl (lv_at hl 3 rfl) ?_
      refine lv_iload_n B.1 B.2.1 dX10_opened_192 rfl (lv_at hl 2 rfl) ?_
      refine lv_bipush (v := 13) B.1 B.2.1 dX10_opened_193 (by decide) ?_
      refine lv_icmp_ne (tgt := 207) B.1 B.2.1 dX10_opened_195 (by decide) (fun k29 => ?_) (fun k29 => ?_)
      · have hw := hw.2 k29
        refine lv_aload_n B.1 B.2.1 dX10_opened_207 rfl (lv_at hl 0 rfl) ?_
        refine io_g_10_22 B Z dX10_opened_208 ?_
        refine lv_iload_n B.1 B.2.1 dX10_opened_211 rfl (lv_at hl 3 rfl) ?_
        refine io_iald B Z 129 (by decide) io_e_129 hw.1 dX10_opened_212 ?_
        have hw := hw.2
        refine io_iast B Z 129 (by decide) io_e_129 hw.1 dX10_opened_213 (fun s30 H locs e31 Z => ?_)
        have hw := hw.2 s30 e31
        refine lv_aload_n B.1 B.2.1 dX10_opened_214 rfl (lv_at hl 0 rfl) ?_
        refine lv_iload_n B.1 B.2.1 dX10_opened_215 rfl (lv_at hl 1 rfl) ?_
        refine io_call_v Z (io_runV (ci := 10) (k := 111) [.int p1] [] B Z (io_c_X10_note l D ca ad A _ p1 _ hw) io_k_10_175 (io_hR (by decide) (by decide)) rfl (by decide) (io_e_111 _) rfl hl.1 (Nat.le_of_ble_eq_true rfl) dX10_opened_216 ⟨Nat.le_refl _, Nat.le_refl _⟩) (fun s33 H locs hw Z => ?_)
        refine lv_aload_n B.1 B.2.1 dX10_opened_219 rfl (lv_at hl 0 rfl) ?_
        refine lv_iconst (v := 0) B.1 B.2.1 dX10_opened_220 (by decide) ?_
        refine lv_iconst (v := 0) B.1 B.2.1 dX10_opened_221 (by decide) ?_
        refine io_call_v Z (io_runV (ci := 10) (k := 111) [.int 0, .int 0] [] B Z (io_c_X10_gives l D ca ad A _ 0 0 _ hw) io_k_10_179 (io_hR (by decide) (by decide)) rfl (by decide) (io_e_111 _) rfl hl.1 (Nat.le_of_ble_eq_true rfl) dX10_opened_222 ⟨Nat.le_refl _, Nat.le_refl _⟩) (fun s35 H locs hw Z => ?_)
        exact io_ret_v B Z hr hlk hw dX10_opened_225
      · have hw := hw.1 k29
        refine lv_aload_n B.1 B.2.1 dX10_opened_198 rfl (lv_at hl 0 rfl) ?_
        refine io_g_10_12 B Z dX10_opened_199 ?_
        refine lv_iload_n B.1 B.2.1 dX10_opened_202 rfl (lv_at hl 1 rfl) ?_
        refine io_iald B Z 120 (by decide) io_e_120 hw.1 dX10_opened_203 ?_
        have hw := hw.2
        refine lv_goto (tgt := 213) B.1 B.2.1 dX10_opened_204 (by decide) ?_
        refine io_iast B Z 129 (by decide) io_e_129 hw.1 dX10_opened_213 (fun s36 H locs e37 Z => ?_)
        have hw := hw.2 s36 e37
        refine lv_aload_n B.1 B.2.1 dX10_opened_214 rfl (lv_at hl 0 rfl) ?_
        refine lv_iload_n B.1 B.2.1 dX10_opened_215 rfl (lv_at hl 1 rfl) ?_
        refine io_call_v Z (io_runV (ci := 10) (k := 111) [.int p1] [] B Z (io_c_X10_note l D ca ad A _ p1 _ hw) io_k_10_175 (io_hR (by decide) (by decide)) rfl (by decide) (io_e_111 _) rfl hl.1 (Nat.le_of_ble_eq_true rfl) dX10_opened_216 ⟨Nat.le_refl _, Nat.le_refl _⟩) (fun s39 H locs hw Z => ?_)
        refine lv_aload_n B.1 B.2.1 dX10_opened_219 rfl (lv_at hl 0 rfl) ?_
        refine lv_iconst (v := 0) B.1 B.2.1 dX10_opened_220 (by decide) ?_
        refine lv_iconst (v := 0) B.1 B.2.1 dX10_opened_221 (by decide) ?_
        refine io_call_v Z (io_runV (ci := 10) (k := 111) [.int 0, .int 0] [] B Z (io_c_X10_gives l D ca ad A _ 0 0 _ hw) io_k_10_179 (io_hR (by decide) (by decide)) rfl (by decide) (io_e_111 _) rfl hl.1 (Nat.le_of_ble_eq_true rfl) dX10_opened_222 ⟨Nat.le_refl _, Nat.le_refl _⟩) (fun s41 H locs hw Z => ?_)
        exact io_ret_v B Z hr hlk hw dX10_opened_225
    · have hw := hw.1 k28
      refine lv_aload_n B.1 B.2.1 dX10_opened_168 rfl (lv_at hl 0 rfl) ?_
      refine lv_iconst (v := 0) B.1 B.2.1 dX10_opened_169 (by decide) ?_
      refine lv_aload_n B.1 B.2.1 dX10_opened_170 rfl (lv_at hl 0 rfl) ?_
      refine io_g_10_1 B Z dX10_opened_171 ?_
      refine lv_aload_n B.1 B.2.1 dX10_opened_174 rfl (lv_at hl 0 rfl) ?_
      refine io_g_10_17 B Z dX10_opened_175 ?_
      refine lv_iload_n B.1 B.2.1 dX10_opened_178 rfl (lv_at hl 3 rfl) ?_
      refine io_iald B Z 124 (by decide) io_e_124 hw.1 dX10_opened_179 ?_
      have hw := hw.2
      refine io_iald B Z 113 (by decide) io_e_113 hw.1 dX10_opened_180 ?_
      have hw := hw.2
      refine io_call_v Z (io_runV (ci := 10) (k := 111) [.int 0, .int (s25 113 ((s25 124 (p3).toNatClampNeg)).toNatClampNeg)] [] B Z (io_c_X10_gives l D ca ad A _ 0 (s25 113 ((s25 124 (p3).toNatClampNeg)).toNatClampNeg) _ hw) io_k_10_179 (io_hR (by decide) (by decide)) rfl (by decide) (io_e_111 _) rfl hl.1 (Nat.le_of_ble_eq_true rfl) dX10_opened_181 ⟨Nat.le_refl _, Nat.le_refl _⟩) (fun s43 H locs hw Z => ?_)
      refine lv_goto (tgt := 225) B.1 B.2.1 dX10_opened_184 (by decide) ?_
      exact io_ret_v B Z hr hlk hw dX10_opened_225
  · have hw := hw.1 k27
    refine lv_aload_n B.1 B.2.1 dX10_opened_153 rfl (lv_at hl 0 rfl) ?_
    refine lv_iload_n B.1 B.2.1 dX10_opened_154 rfl (lv_at hl 1 rfl) ?_
    refine lv_iconst (v := 5) B.1 B.2.1 dX10_opened_155 (by decide) ?_
    refine io_call_v Z (io_runV (ci := 10) (k := 111) [.int p1, .int 5] [] B Z (io_c_X10_fails l D ca ad A _ p1 5 _ hw) io_k_10_171 (io_hR (by decide) (by decide)) rfl (by decide) (io_e_111 _) rfl hl.1 (Nat.le_of_ble_eq_true rfl) dX10_opened_156 ⟨Nat.le_refl _, Nat.le_refl _⟩) (fun s45 H locs hw Z => ?_)
    refine lv_goto (tgt := 225) B.1 B.2.1 dX10_opened_159 (by decide) ?_
    exact io_ret_v B Z hr hlk hw dX10_opened_225
def wj_X10_putByte_116 (σ : io_M) (x1 : Int32) (x2 : Int32) (y0 : Int32) (post : io_M → Prop) : Prop := ((y0 = 0 → (wp_X10_note σ x1 (fun s103 => (wp_X10_gives s103 0 0 (fun s105 => post s105))))) ∧ (¬ (y0 = 0) → (wp_X10_flush σ x2 (fun r106 s107 => ((r106 = 0 → (wp_X10_fails s107 x1 5 (fun s111 => post s111))) ∧ (¬ (r106 = 0) → (wp_X10_note s107 x1 (fun s113 => (wp_X10_gives s113 0 0 (fun s115 => post s115))))))))))
def wj_X10_putByte_111 (σ : io_M) (x1 : Int32) (x2 : Int32) (post : io_M → Prop) : Prop := wj_X10_putByte_116 σ x1 x2 1 post
def wj_X10_putByte_115 (σ : io_M) (x1 : Int32) (x2 : Int32) (post : io_M → Prop) : Prop := wj_X10_putByte_116 σ x1 x2 0 post
def wj_X10_putByte_94 (σ : io_M) (x1 : Int32) (x2 : Int32) (x4 : Int32) (post : io_M → Prop) : Prop := ((x4 ≤ 1 → wj_X10_putByte_115 σ x1 x2 post) ∧ (¬ (x4 ≤ 1) → (vp_in x2 20 ∧ (((σ 130 (x2).toNatClampNeg) = x4 → wj_X10_putByte_111 σ x1 x2 post) ∧ (¬ ((σ 130 (x2).toNatClampNeg) = x4) → wj_X10_putByte_115 σ x1 x2 post)))))
def wp_X10_putByte (σ : io_M) (p1 : Int32) (p2 : Int32) (p3 : Int32) (post : io_M → Prop) : Prop := (vp_in p2 20 ∧ (((σ 125 (p2).toNatClampNeg) = 0 → (wp_X10_fails σ p1 4 (fun s14 => post s14))) ∧ (¬ ((σ 125 (p2).toNatClampNeg) = 0) → (vp_in p2 20 ∧ (vp_in ((20 * p2) + (σ 130 (p2).toNatClampNeg)) 400 ∧ ∀ s3, s3 = io_up σ 131 (((20 * p2) + (σ 130 (p2).toNatClampNeg))).toNatClampNeg ((((p3).toInt8.toInt32)).toInt8.toInt32) → (vp_in p2 20 ∧ (vp_in p2 20 ∧ ∀ s5, s5 = io_up s3 130 (p2).toNatClampNeg (((s3 130 (p2).toNatClampNeg) + 1)) → (vp_in p2 20 ∧ (vp_in p2 20 ∧ ∀ s7, s7 = io_up s5 132 (p2).toNatClampNeg (((s5 132 (p2).toNatClampNeg) + 1)) → (vp_in p2 20 ∧ (((s7 129 (p2).toNatClampNeg) = 0 → wj_X10_putByte_111 s7 p1 p2 post) ∧ (¬ ((s7 129 (p2).toNatClampNeg) = 0) → (((s7 129 (p2).toNatClampNeg) = 1 → (((p3 &&& 255) = 10 → wj_X10_putByte_111 s7 p1 p2 post) ∧ (¬ ((p3 &&& 255) = 10) → (vp_in p2 20 ∧ (((s7 130 (p2).toNatClampNeg) = 20 → wj_X10_putByte_111 s7 p1 p2 post) ∧ (¬ ((s7 130 (p2).toNatClampNeg) = 20) → wj_X10_putByte_94 s7 p1 p2 (s7 129 (p2).toNatClampNeg) post)))))) ∧ (¬ ((s7 129 (p2).toNatClampNeg) = 1) → wj_X10_putByte_94 s7 p1 p2 (s7 129 (p2).toNatClampNeg) post))))))))))))))
set_option maxHeartbeats 4000000 in
set_option maxRecDepth 100000 in
theorem io_c_X10_putByte (l : Launch) (D : va_G) (ca : Nat → ClassId) (ad : Nat → Nat) (A : Nat → Prop) (σ : io_M) (p1 : Int32) (p2 : Int32) (p3 : Int32) (post : io_M → Prop) (hw : wp_X10_putByte σ p1 p2 p3 post) : Met l yX10_putByte (.code yX10_putByte cX10_putByte 6 none :: io_tb) (io_rm 2) (va_Pc [.ref (ad 111), .int p1, .int p2, .int p3] (io_W D ca ad A σ)) (va_Qv post (io_W D ca ad A) A) 0 0 A := by
  refine Met.ofW (cc := cX10_putByte) (maxL := 6) (ret := none) (by decide) rfl ?_
  intro p e s m args below meth c s₁ Bd hml hv
  obtain ⟨rfl, hW0⟩ := hv
  have Z := io_Z.start hW0
  have B : CallFix p m c cX10_putByte 6 s _ io_tb RX10 := ⟨Bd.exec, Bd.bytes, hml, findClass_of_methodNamed Bd.named, fun w hw => atoms_spec (ws := (.code yX10_putByte cX10_putByte 6 none :: io_tb)) Bd.pre w (List.mem_cons_of_mem _ hw)⟩
  have hr := Bd.returns
  have hlk := Bd.notSynchronized
  have hl := lv_entry ([.ref (ad 111), .int p1, .int p2, .int p3]) (n := 6) (Nat.le_of_ble_eq_true rfl)
  rw [lg_entry_eq]
  generalize (lg_sl ([.ref (ad 111), .int p1, .int p2, .int p3]) ++ List.replicate (6 - (lg_sl ([.ref (ad 111), .int p1, .int p2, .int p3])).length) Slot.unset).toArray = ls at hl ⊢
  have hl : lv_has ls 6 [(0, .ref (ad 111)), (1, .int p1), (2, .int p2), (3, .int p3)] := hl
  show W p l e (io_rm 2) s m _ below meth c s.heap [] 0 0 _ (F0 m 0 ls [])
  have JN116 : ∀ (σ : io_M) (x1 : Int32) (x2 : Int32) (y0 : Int32), wj_X10_putByte_116 σ x1 x2 y0 post → ∀ (H : Heap) (locs : List Loc), io_Z D ca ad A s H locs σ → ∀ ls : Array Slot, lv_has ls 6 [(0, .ref (ad 111)), (1, .int x1), (2, .int x2)] → W p l e (io_rm 2) s m ([.ref (ad 111), .int p1, .int p2, .int p3] : List Value).toArray below meth c H locs 0 0 (MQ below (va_Qv post (io_W D ca ad A) A) ([.ref (ad 111), .int p1, .int p2, .int p3] : List Value).toArray s 0 0 A) (F0 m 116 ls [.int y0]) := by
    intro σ x1 x2 y0 hw H locs Z ls hl
    unfold wj_X10_putByte_116 at hw
    refine lv_istore (lv' := [(5, .int y0), (0, .ref (ad 111)), (1, .int x1), (2, .int x2)]) B.1 B.2.1 dX10_putByte_116 hl (by decide) rfl (fun ls hl => ?_)
    refine lv_iload B.1 B.2.1 dX10_putByte_118 (lv_at hl 0 rfl) ?_
    refine lv_if_eq (tgt := 131) B.1 B.2.1 dX10_putByte_120 (by decide) (fun k101 => ?_) (fun k101 => ?_)
    · have hw := hw.1 k101
      refine lv_aload_n B.1 B.2.1 dX10_putByte_131 rfl (lv_at hl 1 rfl) ?_
      refine lv_iload_n B.1 B.2.1 dX10_putByte_132 rfl (lv_at hl 2 rfl) ?_
      refine io_call_v Z (io_runV (ci := 10) (k := 111) [.int x1] [] B Z (io_c_X10_note l D ca ad A _ x1 _ hw) io_k_10_175 (io_hR (by decide) (by decide)) rfl (by decide) (io_e_111 _) rfl hl.1 (Nat.le_of_ble_eq_true rfl) dX10_putByte_133 ⟨Nat.le_refl _, Nat.le_refl _⟩) (fun s103 H locs hw Z => ?_)
      refine lv_aload_n B.1 B.2.1 dX10_putByte_136 rfl (lv_at hl 1 rfl) ?_
      refine lv_iconst (v := 0) B.1 B.2.1 dX10_putByte_137 (by decide) ?_
      refine lv_iconst (v := 0) B.1 B.2.1 dX10_putByte_138 (by decide) ?_
      refine io_call_v Z (io_runV (ci := 10) (k := 111) [.int 0, .int 0] [] B Z (io_c_X10_gives l D ca ad A _ 0 0 _ hw) io_k_10_179 (io_hR (by decide) (by decide)) rfl (by decide) (io_e_111 _) rfl hl.1 (Nat.le_of_ble_eq_true rfl) dX10_putByte_139 ⟨Nat.le_refl _, Nat.le_refl _⟩) (fun s105 H locs hw Z => ?_)
      refine lv_goto (tgt := 151) B.1 B.2.1 dX10_putByte_142 (by decide) ?_
      exact io_ret_v B Z hr hlk hw dX10_putByte_151
    · have hw := hw.2 k101
      refine lv_aload_n B.1 B.2.1 dX10_putByte_123 rfl (lv_at hl 1 rfl) ?_
      refine lv_iload_n B.1 B.2.1 dX10_putByte_124 rfl (lv_at hl 3 rfl) ?_
      refine io_call_i Z (io_runV (ci := 10) (k := 111) [.int x2] [] B Z (io_c_X10_flush l D ca ad A _ x2 _ hw) io_k_10_263 (io_hR (by decide) (by decide)) rfl (by decide) (io_e_111 _) rfl hl.1 (Nat.le_of_ble_eq_true rfl) dX10_putByte_125 ⟨Nat.le_refl _, Nat.le_refl _⟩) (fun r106 s107 H locs hw Z => ?_)
      obtain ⟨b108, hw⟩ := hw
      refine lv_if_eq (tgt := 145) B.1 B.2.1 dX10_putByte_128 (by decide) (fun k109 => ?_) (fun k109 => ?_)
      · have hw := hw.1 k109
        refine lv_aload_n B.1 B.2.1 dX10_putByte_145 rfl (lv_at hl 1 rfl) ?_
        refine lv_iload_n B.1 B.2.1 dX10_putByte_146 rfl (lv_at hl 2 rfl) ?_
        refine lv_iconst (v := 5) B.1 B.2.1 dX10_putByte_147 (by decide) ?_
        refine io_call_v Z (io_runV (ci := 10) (k := 111) [.int x1, .int 5] [] B Z (io_c_X10_fails l D ca ad A _ x1 5 _ hw) io_k_10_171 (io_hR (by decide) (by decide)) rfl (by decide) (io_e_111 _) rfl hl.1 (Nat.le_of_ble_eq_true rfl) dX10_putByte_148 ⟨Nat.le_refl _, Nat.le_refl _⟩) (fun s111 H locs hw Z => ?_)
        exact io_ret_v B Z hr hlk hw dX10_putByte_151
      · have hw := hw.2 k109
        refine lv_aload_n B.1 B.2.1 dX10_putByte_131 rfl (lv_at hl 1 rfl) ?_
        refine lv_iload_n B.1 B.2.1 dX10_putByte_132 rfl (lv_at hl 2 rfl) ?_
        refine io_call_v Z (io_runV (ci := 10) (k := 111) [.int x1] [] B Z (io_c_X10_note l D ca ad A _ x1 _ hw) io_k_10_175 (io_hR (by decide) (by decide)) rfl (by decide) (io_e_111 _) rfl hl.1 (Nat.le_of_ble_eq_true rfl) dX10_putByte_133 ⟨Nat.le_refl _, Nat.le_refl _⟩) (fun s113 H locs hw Z => ?_)
        refine lv_aload_n B.1 B.2.1 dX10_putByte_136 rfl (lv_at hl 1 rfl) ?_
        refine lv_iconst (v := 0) B.1 B.2.1 dX10_putByte_137 (by decide) ?_
        refine lv_iconst (v := 0) B.1 B.2.1 dX10_putByte_138 (by decide) ?_
        refine io_call_v Z (io_runV (ci := 10) (k := 111) [.int 0, .int 0] [] B Z (io_c_X10_gives l D ca ad A _ 0 0 _ hw) io_k_10_179 (io_hR (by decide) (by decide)) rfl (by decide) (io_e_111 _) rfl hl.1 (Nat.le_of_ble_eq_true rfl) dX10_putByte_139 ⟨Nat.le_refl _, Nat.le_refl _⟩) (fun s115 H locs hw Z => ?_)
        refine lv_goto (tgt := 151) B.1 B.2.1 dX10_putByte_142 (by decide) ?_
        exact io_ret_v B Z hr hlk hw dX10_putByte_151
  have JN111 : ∀ (σ : io_M) (x1 : Int32) (x2 : Int32), wj_X10_putByte_111 σ x1 x2 post → ∀ (H : Heap) (locs : List Loc), io_Z D ca ad A s H locs σ → ∀ ls : Array Slot, lv_has ls 6 [(0, .ref (ad 111)), (1, .int x1), (2, .int x2)] → W p l e (io_rm 2) s m ([.ref (ad 111), .int p1, .int p2, .int p3] : List Value).toArray below meth c H locs 0 0 (MQ below (va_Qv post (io_W D ca ad A) A) ([.ref (ad 111), .int p1, .int p2, .int p3] : List Value).toArray s 0 0 A) (F0 m 111 ls []) := by
    intro σ x1 x2 hw H locs Z ls hl
    unfold wj_X10_putByte_111 at hw
    refine lv_iconst (v := 1) B.1 B.2.1 dX10_putByte_111 (by decide) ?_
    refine lv_goto (tgt := 116) B.1 B.2.1 dX10_putByte_112 (by decide) ?_
    exact JN116 _ x1 x2 1 hw _ _ Z _ (lv_sub (l' := [(0, .ref (ad 111)), (1, .int x1), (2, .int x2)]) hl [0, 1, 2] rfl)
  have JN115 : ∀ (σ : io_M) (x1 : Int32) (x2 : Int32), wj_X10_putByte_115 σ x1 x2 post → ∀ (H : Heap) (locs : List Loc), io_Z D ca ad A s H locs σ → ∀ ls : Array Slot, lv_has ls 6 [(0, .ref (ad 111)), (1, .int x1), (2, .int x2)] → W p l e (io_rm 2) s m ([.ref (ad 111), .int p1, .int p2, .int p3] : List Value).toArray below meth c H locs 0 0 (MQ below (va_Qv post (io_W D ca ad A) A) ([.ref (ad 111), .int p1, .int p2, .int p3] : List Value).toArray s 0 0 A) (F0 m 115 ls []) := by
    intro σ x1 x2 hw H locs Z ls hl
    unfold wj_X10_putByte_115 at hw
    refine lv_iconst (v := 0) B.1 B.2.1 dX10_putByte_115 (by decide) ?_
    exact JN116 _ x1 x2 0 hw _ _ Z _ (lv_sub (l' := [(0, .ref (ad 111)), (1, .int x1), (2, .int x2)]) hl [0, 1, 2] rfl)
  have JN94 : ∀ (σ : io_M) (x1 : Int32) (x2 : Int32) (x4 : Int32), wj_X10_putByte_94 σ x1 x2 x4 post → ∀ (H : Heap) (locs : List Loc), io_Z D ca ad A s H locs σ → ∀ ls : Array Slot, lv_has ls 6 [(0, .ref (ad 111)), (1, .int x1), (2, .int x2), (4, .int x4)] → W p l e (io_rm 2) s m ([.ref (ad 111), .int p1, .int p2, .int p3] : List Value).toArray below meth c H locs 0 0 (MQ below (va_Qv post (io_W D ca ad A) A) ([.ref (ad 111), .int p1, .int p2, .int p3] : List Value).toArray s 0 0 A) (F0 m 94 ls []) := by
    intro σ x1 x2 x4 hw H locs Z ls hl
    unfold wj_X10_putByte_94 at hw
    refine lv_iload B.1 B.2.1 dX10_putByte_94 (lv_at hl 3 rfl) ?_
    refine lv_iconst (v := 1) B.1 B.2.1 dX10_putByte_96 (by decide) ?_
    refine lv_icmp_le (tgt := 115) B.1 B.2.1 dX10_putByte_97 (by decide) (fun k401 => ?_) (fun k401 => ?_)
    · have hw := hw.1 k401
      exact JN115 _ x1 x2 hw _ _ Z _ (lv_sub (l' := [(0, .ref (ad 111)), (1, .int x1), (2, .int x2)]) hl [0, 1, 2] rfl)
    · have hw := hw.2 k401
      refine lv_aload_n B.1 B.2.1 dX10_putByte_100 rfl (lv_at hl 0 rfl) ?_
      refine io_g_10_23 B Z dX10_putByte_101 ?_
      refine lv_iload_n B.1 B.2.1 dX10_putByte_104 rfl (lv_at hl 2 rfl) ?_
      refine io_iald B Z 130 (by decide) io_e_130 hw.1 dX10_putByte_105 ?_
      have hw := hw.2
      refine lv_iload B.1 B.2.1 dX10_putByte_106 (lv_at hl 3 rfl) ?_
      refine lv_icmp_ne (tgt := 115) B.1 B.2.1 dX10_putByte_108 (by decide) (fun k402 => ?_) (fun k402 => ?_)
      · have hw := hw.2 k402
        exact JN115 _ x1 x2 hw _ _ Z _ (lv_sub (l' := [(0, .ref (ad 111)), (1, .int x1), (2, .int x2)]) hl [0, 1, 2] rfl)
      · have hw := hw.1 k402
        exact JN111 _ x1 x2 hw _ _ Z _ (lv_sub (l' := [(0, .ref (ad 111)), (1, .int x1), (2, .int x2)]) hl [0, 1, 2] rfl)
  unfold wp_X10_putByte at hw
  refine lv_aload_n B.1 B.2.1 dX10_putByte_0 rfl (lv_at hl 0 rfl) ?_
  refine io_g_10_18 B Z dX10_putByte_1 ?_
  refine lv_iload_n B.1 B.2.1 dX10_putByte_4 rfl (lv_at hl 2 rfl) ?_
  refine io_iald B Z 125 (by decide) io_e_125 hw.1 dX10_putByte_5 ?_
  have hw := hw.2
  refine lv_if_ne (tgt := 16) B.1 B.2.1 dX10_putByte_6 (by decide) (fun k2 => ?_) (fun k2 => ?_)
  · have hw := hw.2 k2
    refine lv_aload_n B.1 B.2.1 dX10_putByte_16 rfl (lv_at hl 0 rfl) ?_
    refine io_g_10_24 B Z dX10_putByte_17 ?_
    refine lv_bipush (v := 20) B.1 B.2.1 dX10_putByte_20 (by decide) ?_
    refine lv_iload_n B.1 B.2.1 dX10_putByte_22 rfl (lv_at hl 2 rfl) ?_
    refine lv_imul B.1 B.2.1 dX10_putByte_23 ?_
    refine lv_aload_n B.1 B.2.1 dX10_putByte_24 rfl (lv_at hl 0 rfl) ?_
    refine io_g_10_23 B Z dX10_putByte_25 ?_
    refine lv_iload_n B.1 B.2.1 dX10_putByte_28 rfl (lv_at hl 2 rfl) ?_
    refine io_iald B Z 130 (by decide) io_e_130 hw.1 dX10_putByte_29 ?_
    have hw := hw.2
    refine lv_iadd B.1 B.2.1 dX10_putByte_30 ?_
    refine lv_iload_n B.1 B.2.1 dX10_putByte_31 rfl (lv_at hl 3 rfl) ?_
    refine lv_i2b (v := ((p3).toInt8.toInt32)) B.1 B.2.1 dX10_putByte_32 rfl ?_
    refine io_bast B Z 131 (by decide) io_e_131 hw.1 dX10_putByte_33 (fun s3 H locs e4 Z => ?_)
    have hw := hw.2 s3 e4
    refine lv_aload_n B.1 B.2.1 dX10_putByte_34 rfl (lv_at hl 0 rfl) ?_
    refine io_g_10_23 B Z dX10_putByte_35 ?_
    refine lv_iload_n B.1 B.2.1 dX10_putByte_38 rfl (lv_at hl 2 rfl) ?_
    refine lv_dup2_11 B.1 B.2.1 dX10_putByte_39 rfl rfl ?_
    refine io_iald B Z 130 (by decide) io_e_130 hw.1 dX10_putByte_40 ?_
    have hw := hw.2
    refine lv_iconst (v := 1) B.1 B.2.1 dX10_putByte_41 (by decide) ?_
    refine lv_iadd B.1 B.2.1 dX10_putByte_42 ?_
    refine io_iast B Z 130 (by decide) io_e_130 hw.1 dX10_putByte_43 (fun s5 H locs e6 Z => ?_)
    have hw := hw.2 s5 e6
    refine lv_aload_n B.1 B.2.1 dX10_putByte_44 rfl (lv_at hl 0 rfl) ?_
    refine io_g_10_25 B Z dX10_putByte_45 ?_
    refine lv_iload_n B.1 B.2.1 dX10_putByte_48 rfl (lv_at hl 2 rfl) ?_
    refine lv_dup2_11 B.1 B.2.1 dX10_putByte_49 rfl rfl ?_
    refine io_iald B Z 132 (by decide) io_e_132 hw.1 dX10_putByte_50 ?_
    have hw := hw.2
    refine lv_iconst (v := 1) B.1 B.2.1 dX10_putByte_51 (by decide) ?_
    refine lv_iadd B.1 B.2.1 dX10_putByte_52 ?_
    refine io_iast B Z 132 (by decide) io_e_132 hw.1 dX10_putByte_53 (fun s7 H locs e8 Z => ?_)
    have hw := hw.2 s7 e8
    refine lv_aload_n B.1 B.2.1 dX10_putByte_54 rfl (lv_at hl 0 rfl) ?_
    refine io_g_10_22 B Z dX10_putByte_55 ?_
    refine lv_iload_n B.1 B.2.1 dX10_putByte_58 rfl (lv_at hl 2 rfl) ?_
    refine io_iald B Z 129 (by decide) io_e_129 hw.1 dX10_putByte_59 ?_
    have hw := hw.2
    refine lv_istore (lv' := [(4, .int (s7 129 (p2).toNatClampNeg)), (0, .ref (ad 111)), (1, .int p1), (2, .int p2), (3, .int p3)]) B.1 B.2.1 dX10_putByte_60 hl (by decide) rfl (fun ls hl => ?_)
    refine lv_iload B.1 B.2.1 dX10_putByte_62 (lv_at hl 0 rfl) ?_
    refine lv_if_eq (tgt := 111) B.1 B.2.1 dX10_putByte_64 (by decide) (fun k9 => ?_) (fun k9 => ?_)
    · have hw := hw.1 k9
      exact JN111 _ p1 p2 hw _ _ Z _ (lv_sub (l' := [(0, .ref (ad 111)), (1, .int p1), (2, .int p2)]) hl [1, 2, 3] rfl)
    · have hw := hw.2 k9
      refine lv_iload B.1 B.2.1 dX10_putByte_67 (lv_at hl 0 rfl) ?_
      refine lv_iconst (v := 1) B.1 B.2.1 dX10_putByte_69 (by decide) ?_
      refine lv_icmp_ne (tgt := 94) B.1 B.2.1 dX10_putByte_70 (by decide) (fun k10 => ?_) (fun k10 => ?_)
      · have hw := hw.2 k10
        exact JN94 _ p1 p2 (s7 129 (p2).toNatClampNeg) hw _ _ Z _ (lv_sub (l' := [(0, .ref (ad 111)), (1, .int p1), (2, .int p2), (4, .int (s7 129 (p2).toNatClampNeg))]) hl [1, 2, 3, 0] rfl)
      · have hw := hw.1 k10
        refine lv_iload_n B.1 B.2.1 dX10_putByte_73 rfl (lv_at hl 4 rfl) ?_
        refine lv_sipush (v := 255) B.1 B.2.1 dX10_putByte_74 (by decide) ?_
        refine lv_iand B.1 B.2.1 dX10_putByte_77 ?_
        refine lv_bipush (v := 10) B.1 B.2.1 dX10_putByte_78 (by decide) ?_
        refine lv_icmp_eq (tgt := 111) B.1 B.2.1 dX10_putByte_80 (by decide) (fun k11 => ?_) (fun k11 => ?_)
        · have hw := hw.1 k11
          exact JN111 _ p1 p2 hw _ _ Z _ (lv_sub (l' := [(0, .ref (ad 111)), (1, .int p1), (2, .int p2)]) hl [1, 2, 3] rfl)
        · have hw := hw.2 k11
          refine lv_aload_n B.1 B.2.1 dX10_putByte_83 rfl (lv_at hl 1 rfl) ?_
          refine io_g_10_23 B Z dX10_putByte_84 ?_
          refine lv_iload_n B.1 B.2.1 dX10_putByte_87 rfl (lv_at hl 3 rfl) ?_
          refine io_iald B Z 130 (by decide) io_e_130 hw.1 dX10_putByte_88 ?_
          have hw := hw.2
          refine lv_bipush (v := 20) B.1 B.2.1 dX10_putByte_89 (by decide) ?_
          refine lv_icmp_eq (tgt := 111) B.1 B.2.1 dX10_putByte_91 (by decide) (fun k12 => ?_) (fun k12 => ?_)
          · have hw := hw.1 k12
            exact JN111 _ p1 p2 hw _ _ Z _ (lv_sub (l' := [(0, .ref (ad 111)), (1, .int p1), (2, .int p2)]) hl [1, 2, 3] rfl)
          · have hw := hw.2 k12
            exact JN94 _ p1 p2 (s7 129 (p2).toNatClampNeg) hw _ _ Z _ (lv_sub (l' := [(0, .ref (ad 111)), (1, .int p1), (2, .int p2), (4, .int (s7 129 (p2).toNatClampNeg))]) hl [1, 2, 3, 0] rfl)
  · have hw := hw.1 k2
    refine lv_aload_n B.1 B.2.1 dX10_putByte_9 rfl (lv_at hl 0 rfl) ?_
    refine lv_iload_n B.1 B.2.1 dX10_putByte_10 rfl (lv_at hl 1 rfl) ?_
    refine lv_iconst (v := 4) B.1 B.2.1 dX10_putByte_11 (by decide) ?_
    refine io_call_v Z (io_runV (ci := 10) (k := 111) [.int p1, .int 4] [] B Z (io_c_X10_fails l D ca ad A _ p1 4 _ hw) io_k_10_171 (io_hR (by decide) (by decide)) rfl (by decide) (io_e_111 _) rfl hl.1 (Nat.le_of_ble_eq_true rfl) dX10_putByte_12 ⟨Nat.le_refl _, Nat.le_refl _⟩) (fun s14 H locs hw Z => ?_)
    exact io_ret_v B Z hr hlk hw dX10_putByte_15
def wp_X10_seek (σ : io_M) (p1 : Int32) (p2 : Int32) (p3 : Int32) (post : io_M → Prop) : Prop := (wp_X10_flush σ p2 (fun r2 s3 => ((r2 = 0 → (wp_X10_fails s3 p1 5 (fun s22 => post s22))) ∧ (¬ (r2 = 0) → (vp_in p2 20 ∧ (((s3 125 (p2).toNatClampNeg) = 2 → (wp_X10_fails s3 p1 4 (fun s8 => post s8))) ∧ (¬ ((s3 125 (p2).toNatClampNeg) = 2) → (vp_in p2 20 ∧ (vp_in (s3 124 (p2).toNatClampNeg) 8 ∧ (wp_X10_in s3 p3 0 (s3 113 ((s3 124 (p2).toNatClampNeg)).toNatClampNeg) (fun r9 s10 => ((r9 = 0 → (wp_X10_fails s10 p1 4 (fun s20 => post s20))) ∧ (¬ (r9 = 0) → (vp_in p2 20 ∧ ∀ s13, s13 = io_up s10 126 (p2).toNatClampNeg (p3) → (wp_X10_note s13 p1 (fun s16 => (wp_X10_gives s16 0 0 (fun s18 => post s18))))))))))))))))))
set_option maxHeartbeats 4000000 in
set_option maxRecDepth 100000 in
theorem io_c_X10_seek (l : Launch) (D : va_G) (ca : Nat → ClassId) (ad : Nat → Nat) (A : Nat → Prop) (σ : io_M) (p1 : Int32) (p2 : Int32) (p3 : Int32) (post : io_M → Prop) (hw : wp_X10_seek σ p1 p2 p3 post) : Met l yX10_seek (.code yX10_seek cX10_seek 4 none :: io_tb) (io_rm 2) (va_Pc [.ref (ad 111), .int p1, .int p2, .int p3] (io_W D ca ad A σ)) (va_Qv post (io_W D ca ad A) A) 0 0 A := by
  refine Met.ofW (cc := cX10_seek) (maxL := 4) (ret := none) (by decide) rfl ?_
  intro p e s m args below meth c s₁ Bd hml hv
  obtain ⟨rfl, hW0⟩ := hv
  have Z := io_Z.start hW0
  have B : CallFix p m c cX10_seek 4 s _ io_tb RX10 := ⟨Bd.exec, Bd.bytes, hml, findClass_of_methodNamed Bd.named, fun w hw => atoms_spec (ws := (.code yX10_seek cX10_seek 4 none :: io_tb)) Bd.pre w (List.mem_cons_of_mem _ hw)⟩
  have hr := Bd.returns
  have hlk := Bd.notSynchronized
  have hl := lv_entry ([.ref (ad 111), .int p1, .int p2, .int p3]) (n := 4) (Nat.le_of_ble_eq_true rfl)
  rw [lg_entry_eq]
  generalize (lg_sl ([.ref (ad 111), .int p1, .int p2, .int p3]) ++ List.replicate (4 - (lg_sl ([.ref (ad 111), .int p1, .int p2, .int p3])).length) Slot.unset).toArray = ls at hl ⊢
  have hl : lv_has ls 4 [(0, .ref (ad 111)), (1, .int p1), (2, .int p2), (3, .int p3)] := hl
  show W p l e (io_rm 2) s m _ below meth c s.heap [] 0 0 _ (F0 m 0 ls [])
  unfold wp_X10_seek at hw
  refine lv_aload_n B.1 B.2.1 dX10_seek_0 rfl (lv_at hl 0 rfl) ?_
  refine lv_iload_n B.1 B.2.1 dX10_seek_1 rfl (lv_at hl 2 rfl) ?_
  refine io_call_i Z (io_runV (ci := 10) (k := 111) [.int p2] [] B Z (io_c_X10_flush l D ca ad A _ p2 _ hw) io_k_10_263 (io_hR (by decide) (by decide)) rfl (by decide) (io_e_111 _) rfl hl.1 (Nat.le_of_ble_eq_true rfl) dX10_seek_2 ⟨Nat.le_refl _, Nat.le_refl _⟩) (fun r2 s3 H locs hw Z => ?_)
  obtain ⟨b4, hw⟩ := hw
  refine lv_if_ne (tgt := 17) B.1 B.2.1 dX10_seek_5 (by decide) (fun k5 => ?_) (fun k5 => ?_)
  · have hw := hw.2 k5
    refine lv_aload_n B.1 B.2.1 dX10_seek_17 rfl (lv_at hl 0 rfl) ?_
    refine io_g_10_18 B Z dX10_seek_18 ?_
    refine lv_iload_n B.1 B.2.1 dX10_seek_21 rfl (lv_at hl 2 rfl) ?_
    refine io_iald B Z 125 (by decide) io_e_125 hw.1 dX10_seek_22 ?_
    have hw := hw.2
    refine lv_iconst (v := 2) B.1 B.2.1 dX10_seek_23 (by decide) ?_
    refine lv_icmp_eq (tgt := 46) B.1 B.2.1 dX10_seek_24 (by decide) (fun k6 => ?_) (fun k6 => ?_)
    · have hw := hw.1 k6
      refine lv_aload_n B.1 B.2.1 dX10_seek_46 rfl (lv_at hl 0 rfl) ?_
      refine lv_iload_n B.1 B.2.1 dX10_seek_47 rfl (lv_at hl 1 rfl) ?_
      refine lv_iconst (v := 4) B.1 B.2.1 dX10_seek_48 (by decide) ?_
      refine io_call_v Z (io_runV (ci := 10) (k := 111) [.int p1, .int 4] [] B Z (io_c_X10_fails l D ca ad A _ p1 4 _ hw) io_k_10_171 (io_hR (by decide) (by decide)) rfl (by decide) (io_e_111 _) rfl hl.1 (Nat.le_of_ble_eq_true rfl) dX10_seek_49 ⟨Nat.le_refl _, Nat.le_refl _⟩) (fun s8 H locs hw Z => ?_)
      refine lv_goto (tgt := 73) B.1 B.2.1 dX10_seek_52 (by decide) ?_
      exact io_ret_v B Z hr hlk hw dX10_seek_73
    · have hw := hw.2 k6
      refine lv_iload_n B.1 B.2.1 dX10_seek_27 rfl (lv_at hl 3 rfl) ?_
      refine lv_iconst (v := 0) B.1 B.2.1 dX10_seek_28 (by decide) ?_
      refine lv_aload_n B.1 B.2.1 dX10_seek_29 rfl (lv_at hl 0 rfl) ?_
      refine io_g_10_1 B Z dX10_seek_30 ?_
      refine lv_aload_n B.1 B.2.1 dX10_seek_33 rfl (lv_at hl 0 rfl) ?_
      refine io_g_10_17 B Z dX10_seek_34 ?_
      refine lv_iload_n B.1 B.2.1 dX10_seek_37 rfl (lv_at hl 2 rfl) ?_
      refine io_iald B Z 124 (by decide) io_e_124 hw.1 dX10_seek_38 ?_
      have hw := hw.2
      refine io_iald B Z 113 (by decide) io_e_113 hw.1 dX10_seek_39 ?_
      have hw := hw.2
      refine io_call_i Z (io_runS [.int p3, .int 0, .int (s3 113 ((s3 124 (p2).toNatClampNeg)).toNatClampNeg)] [] B Z (io_c_X10_in l D ca ad A _ p3 0 (s3 113 ((s3 124 (p2).toNatClampNeg)).toNatClampNeg) _ hw) io_k_10_127 (io_hR (by decide) (by decide)) rfl hl.1 (Nat.le_of_ble_eq_true rfl) dX10_seek_40 ⟨Nat.le_refl _, Nat.le_refl _⟩) (fun r9 s10 H locs hw Z => ?_)
      obtain ⟨b11, hw⟩ := hw
      refine lv_if_ne (tgt := 55) B.1 B.2.1 dX10_seek_43 (by decide) (fun k12 => ?_) (fun k12 => ?_)
      · have hw := hw.2 k12
        refine lv_aload_n B.1 B.2.1 dX10_seek_55 rfl (lv_at hl 0 rfl) ?_
        refine io_g_10_19 B Z dX10_seek_56 ?_
        refine lv_iload_n B.1 B.2.1 dX10_seek_59 rfl (lv_at hl 2 rfl) ?_
        refine lv_iload_n B.1 B.2.1 dX10_seek_60 rfl (lv_at hl 3 rfl) ?_
        refine io_iast B Z 126 (by decide) io_e_126 hw.1 dX10_seek_61 (fun s13 H locs e14 Z => ?_)
        have hw := hw.2 s13 e14
        refine lv_aload_n B.1 B.2.1 dX10_seek_62 rfl (lv_at hl 0 rfl) ?_
        refine lv_iload_n B.1 B.2.1 dX10_seek_63 rfl (lv_at hl 1 rfl) ?_
        refine io_call_v Z (io_runV (ci := 10) (k := 111) [.int p1] [] B Z (io_c_X10_note l D ca ad A _ p1 _ hw) io_k_10_175 (io_hR (by decide) (by decide)) rfl (by decide) (io_e_111 _) rfl hl.1 (Nat.le_of_ble_eq_true rfl) dX10_seek_64 ⟨Nat.le_refl _, Nat.le_refl _⟩) (fun s16 H locs hw Z => ?_)
        refine lv_aload_n B.1 B.2.1 dX10_seek_67 rfl (lv_at hl 0 rfl) ?_
        refine lv_iconst (v := 0) B.1 B.2.1 dX10_seek_68 (by decide) ?_
        refine lv_iconst (v := 0) B.1 B.2.1 dX10_seek_69 (by decide) ?_
        refine io_call_v Z (io_runV (ci := 10) (k := 111) [.int 0, .int 0] [] B Z (io_c_X10_gives l D ca ad A _ 0 0 _ hw) io_k_10_179 (io_hR (by decide) (by decide)) rfl (by decide) (io_e_111 _) rfl hl.1 (Nat.le_of_ble_eq_true rfl) dX10_seek_70 ⟨Nat.le_refl _, Nat.le_refl _⟩) (fun s18 H locs hw Z => ?_)
        exact io_ret_v B Z hr hlk hw dX10_seek_73
      · have hw := hw.1 k12
        refine lv_aload_n B.1 B.2.1 dX10_seek_46 rfl (lv_at hl 0 rfl) ?_
        refine lv_iload_n B.1 B.2.1 dX10_seek_47 rfl (lv_at hl 1 rfl) ?_
        refine lv_iconst (v := 4) B.1 B.2.1 dX10_seek_48 (by decide) ?_
        refine io_call_v Z (io_runV (ci := 10) (k := 111) [.int p1, .int 4] [] B Z (io_c_X10_fails l D ca ad A _ p1 4 _ hw) io_k_10_171 (io_hR (by decide) (by decide)) rfl (by decide) (io_e_111 _) rfl hl.1 (Nat.le_of_ble_eq_true rfl) dX10_seek_49 ⟨Nat.le_refl _, Nat.le_refl _⟩) (fun s20 H locs hw Z => ?_)
        refine lv_goto (tgt := 73) B.1 B.2.1 dX10_seek_52 (by decide) ?_
        exact io_ret_v B Z hr hlk hw dX10_seek_73
  · have hw := hw.1 k5
    refine lv_aload_n B.1 B.2.1 dX10_seek_8 rfl (lv_at hl 0 rfl) ?_
    refine lv_iload_n B.1 B.2.1 dX10_seek_9 rfl (lv_at hl 1 rfl) ?_
    refine lv_iconst (v := 5) B.1 B.2.1 dX10_seek_10 (by decide) ?_
    refine io_call_v Z (io_runV (ci := 10) (k := 111) [.int p1, .int 5] [] B Z (io_c_X10_fails l D ca ad A _ p1 5 _ hw) io_k_10_171 (io_hR (by decide) (by decide)) rfl (by decide) (io_e_111 _) rfl hl.1 (Nat.le_of_ble_eq_true rfl) dX10_seek_11 ⟨Nat.le_refl _, Nat.le_refl _⟩) (fun s22 H locs hw Z => ?_)
    refine lv_goto (tgt := 73) B.1 B.2.1 dX10_seek_14 (by decide) ?_
    exact io_ret_v B Z hr hlk hw dX10_seek_73
def wp_X10_pair (σ : io_M) (p1 : Int32) (p2 : Int32) (p3 : Int32) (p4 : Int32) (post : io_M → Prop) : Prop := ((p2 = 8 → (wp_X10_list σ p1 p3 p4 (fun s13 => post s13))) ∧ (¬ (p2 = 8) → (wp_X10_isOpen σ p1 p3 (fun r3 s4 => ((r3 = 0 → post s4) ∧ (¬ (r3 = 0) → ((p2 = 5 → (wp_X10_putByte s4 p1 p3 p4 (fun s11 => post s11))) ∧ (¬ (p2 = 5) → (wp_X10_seek s4 p1 p3 p4 (fun s9 => post s9))))))))))
set_option maxHeartbeats 4000000 in
set_option maxRecDepth 100000 in
theorem io_c_X10_pair (l : Launch) (D : va_G) (ca : Nat → ClassId) (ad : Nat → Nat) (A : Nat → Prop) (σ : io_M) (p1 : Int32) (p2 : Int32) (p3 : Int32) (p4 : Int32) (post : io_M → Prop) (hw : wp_X10_pair σ p1 p2 p3 p4 post) : Met l yX10_pair (.code yX10_pair cX10_pair 5 none :: io_tb) (io_rm 3) (va_Pc [.ref (ad 111), .int p1, .int p2, .int p3, .int p4] (io_W D ca ad A σ)) (va_Qv post (io_W D ca ad A) A) 0 0 A := by
  refine Met.ofW (cc := cX10_pair) (maxL := 5) (ret := none) (by decide) rfl ?_
  intro p e s m args below meth c s₁ Bd hml hv
  obtain ⟨rfl, hW0⟩ := hv
  have Z := io_Z.start hW0
  have B : CallFix p m c cX10_pair 5 s _ io_tb RX10 := ⟨Bd.exec, Bd.bytes, hml, findClass_of_methodNamed Bd.named, fun w hw => atoms_spec (ws := (.code yX10_pair cX10_pair 5 none :: io_tb)) Bd.pre w (List.mem_cons_of_mem _ hw)⟩
  have hr := Bd.returns
  have hlk := Bd.notSynchronized
  have hl := lv_entry ([.ref (ad 111), .int p1, .int p2, .int p3, .int p4]) (n := 5) (Nat.le_of_ble_eq_true rfl)
  rw [lg_entry_eq]
  generalize (lg_sl ([.ref (ad 111), .int p1, .int p2, .int p3, .int p4]) ++ List.replicate (5 - (lg_sl ([.ref (ad 111), .int p1, .int p2, .int p3, .int p4])).length) Slot.unset).toArray = ls at hl ⊢
  have hl : lv_has ls 5 [(0, .ref (ad 111)), (1, .int p1), (2, .int p2), (3, .int p3), (4, .int p4)] := hl
  show W p l e (io_rm 3) s m _ below meth c s.heap [] 0 0 _ (F0 m 0 ls [])
  unfold wp_X10_pair at hw
  refine lv_iload_n B.1 B.2.1 dX10_pair_0 rfl (lv_at hl 2 rfl) ?_
  refine lv_bipush (v := 8) B.1 B.2.1 dX10_pair_1 (by decide) ?_
  refine lv_icmp_ne (tgt := 17) B.1 B.2.1 dX10_pair_3 (by decide) (fun k2 => ?_) (fun k2 => ?_)
  · have hw := hw.2 k2
    refine lv_aload_n B.1 B.2.1 dX10_pair_17 rfl (lv_at hl 0 rfl) ?_
    refine lv_iload_n B.1 B.2.1 dX10_pair_18 rfl (lv_at hl 1 rfl) ?_
    refine lv_iload_n B.1 B.2.1 dX10_pair_19 rfl (lv_at hl 3 rfl) ?_
    refine io_call_i Z (io_runV (ci := 10) (k := 111) [.int p1, .int p3] [] B Z (io_c_X10_isOpen l D ca ad A _ p1 p3 _ hw) io_k_10_251 (io_hR (by decide) (by decide)) rfl (by decide) (io_e_111 _) rfl hl.1 (Nat.le_of_ble_eq_true rfl) dX10_pair_20 ⟨Nat.le_refl _, Nat.le_refl _⟩) (fun r3 s4 H locs hw Z => ?_)
    obtain ⟨b5, hw⟩ := hw
    refine lv_if_eq (tgt := 50) B.1 B.2.1 dX10_pair_23 (by decide) (fun k6 => ?_) (fun k6 => ?_)
    · have hw := hw.1 k6
      exact io_ret_v B Z hr hlk hw dX10_pair_50
    · have hw := hw.2 k6
      refine lv_iload_n B.1 B.2.1 dX10_pair_26 rfl (lv_at hl 2 rfl) ?_
      refine lv_iconst (v := 5) B.1 B.2.1 dX10_pair_27 (by decide) ?_
      refine lv_icmp_ne (tgt := 42) B.1 B.2.1 dX10_pair_28 (by decide) (fun k7 => ?_) (fun k7 => ?_)
      · have hw := hw.2 k7
        refine lv_aload_n B.1 B.2.1 dX10_pair_42 rfl (lv_at hl 0 rfl) ?_
        refine lv_iload_n B.1 B.2.1 dX10_pair_43 rfl (lv_at hl 1 rfl) ?_
        refine lv_iload_n B.1 B.2.1 dX10_pair_44 rfl (lv_at hl 3 rfl) ?_
        refine lv_iload B.1 B.2.1 dX10_pair_45 (lv_at hl 4 rfl) ?_
        refine io_call_v Z (io_runV (ci := 10) (k := 111) [.int p1, .int p3, .int p4] [] B Z (io_c_X10_seek l D ca ad A _ p1 p3 p4 _ hw) io_k_10_260 (io_hR (by decide) (by decide)) rfl (by decide) (io_e_111 _) rfl hl.1 (Nat.le_of_ble_eq_true rfl) dX10_pair_47 ⟨Nat.le_refl _, Nat.le_refl _⟩) (fun s9 H locs hw Z => ?_)
        exact io_ret_v B Z hr hlk hw dX10_pair_50
      · have hw := hw.1 k7
        refine lv_aload_n B.1 B.2.1 dX10_pair_31 rfl (lv_at hl 0 rfl) ?_
        refine lv_iload_n B.1 B.2.1 dX10_pair_32 rfl (lv_at hl 1 rfl) ?_
        refine lv_iload_n B.1 B.2.1 dX10_pair_33 rfl (lv_at hl 3 rfl) ?_
        refine lv_iload B.1 B.2.1 dX10_pair_34 (lv_at hl 4 rfl) ?_
        refine io_call_v Z (io_runV (ci := 10) (k := 111) [.int p1, .int p3, .int p4] [] B Z (io_c_X10_putByte l D ca ad A _ p1 p3 p4 _ hw) io_k_10_257 (io_hR (by decide) (by decide)) rfl (by decide) (io_e_111 _) rfl hl.1 (Nat.le_of_ble_eq_true rfl) dX10_pair_36 ⟨Nat.le_refl _, Nat.le_refl _⟩) (fun s11 H locs hw Z => ?_)
        refine lv_goto (tgt := 50) B.1 B.2.1 dX10_pair_39 (by decide) ?_
        exact io_ret_v B Z hr hlk hw dX10_pair_50
  · have hw := hw.1 k2
    refine lv_aload_n B.1 B.2.1 dX10_pair_6 rfl (lv_at hl 0 rfl) ?_
    refine lv_iload_n B.1 B.2.1 dX10_pair_7 rfl (lv_at hl 1 rfl) ?_
    refine lv_iload_n B.1 B.2.1 dX10_pair_8 rfl (lv_at hl 3 rfl) ?_
    refine lv_iload B.1 B.2.1 dX10_pair_9 (lv_at hl 4 rfl) ?_
    refine io_call_v Z (io_runV (ci := 10) (k := 111) [.int p1, .int p3, .int p4] [] B Z (io_c_X10_list l D ca ad A _ p1 p3 p4 _ hw) io_k_10_245 (io_hR (by decide) (by decide)) rfl (by decide) (io_e_111 _) rfl hl.1 (Nat.le_of_ble_eq_true rfl) dX10_pair_11 ⟨Nat.le_refl _, Nat.le_refl _⟩) (fun s13 H locs hw Z => ?_)
    refine lv_goto (tgt := 50) B.1 B.2.1 dX10_pair_14 (by decide) ?_
    exact io_ret_v B Z hr hlk hw dX10_pair_50
def wj_X10_goHandles_64 (σ : io_M) (x1 : Int32) (x2 : Int32) (y0 : Int32) (y1 : Int32) (post : io_M → Prop) : Prop := (wp_X10_isSort σ y1 y0 (fun r101 s102 => ((r101 = 0 → post s102) ∧ (¬ (r101 = 0) → (vp_in x1 64 ∧ ∀ s105, s105 = io_up s102 142 (x1).toNatClampNeg ((s102 111 47)) → (vp_in x2 60 ∧ (wp_X10_begin s105 (s105 120 (x2).toNatClampNeg) (fun s108 => post s108))))))))
def wj_X10_goHandles_91 (σ : io_M) (x1 : Int32) (x2 : Int32) (x3 : Int32) (x5 : Int32) (post : io_M → Prop) : Prop := ((x5 = 0 → ((x3 = 9 → (wp_X10_isSort σ x2 2 (fun r216 s217 => ((r216 = 0 → post s217) ∧ (¬ (r216 = 0) → (wp_X10_list s217 x2 (s217 111 47) 1000 (fun s221 => post s221))))))) ∧ (¬ (x3 = 9) → (wp_X10_isSort σ x2 1 (fun r203 s204 => ((r203 = 0 → post s204) ∧ (¬ (r203 = 0) → ((x3 = 4 → (wp_X10_close s204 x2 (s204 111 47) (fun s215 => post s215))) ∧ (¬ (x3 = 4) → (wp_X10_isOpen s204 x2 (s204 111 47) (fun r208 s209 => ((r208 = 0 → post s209) ∧ (¬ (r208 = 0) → (wp_X10_opened s209 x2 x3 (s204 111 47) (fun s213 => post s213))))))))))))))) ∧ (¬ (x5 = 0) → (wp_X10_isSort σ x2 0 (fun r222 s223 => ((r222 = 0 → post s223) ∧ (¬ (r222 = 0) → (vp_in x1 64 ∧ (wp_X10_pair s223 x2 x3 (s223 142 (x1).toNatClampNeg) (s223 111 47) (fun s227 => post s227)))))))))
def wj_X10_goHandles_22 (σ : io_M) (x1 : Int32) (x2 : Int32) (x3 : Int32) (x4 : Int32) (y0 : Int32) (post : io_M → Prop) : Prop := ((x4 = 0 → (vp_in x2 60 ∧ (wp_X10_begin σ (σ 119 (x2).toNatClampNeg) (fun s306 => post s306)))) ∧ (¬ (x4 = 0) → ((x4 = 1 → ((y0 = 0 → wj_X10_goHandles_91 σ x1 x2 x3 y0 post) ∧ (¬ (y0 = 0) → ((x3 = 8 → wj_X10_goHandles_64 σ x1 x2 2 x2 post) ∧ (¬ (x3 = 8) → wj_X10_goHandles_64 σ x1 x2 1 x2 post))))) ∧ (¬ (x4 = 1) → wj_X10_goHandles_91 σ x1 x2 x3 y0 post))))
def wj_X10_goHandles_17 (σ : io_M) (x1 : Int32) (x2 : Int32) (x3 : Int32) (x4 : Int32) (post : io_M → Prop) : Prop := wj_X10_goHandles_22 σ x1 x2 x3 x4 1 post
def wp_X10_goHandles (σ : io_M) (p1 : Int32) (p2 : Int32) (p3 : Int32) (p4 : Int32) (post : io_M → Prop) : Prop := ((p3 = 5 → wj_X10_goHandles_17 σ p1 p2 p3 p4 post) ∧ (¬ (p3 = 5) → ((p3 = 8 → wj_X10_goHandles_17 σ p1 p2 p3 p4 post) ∧ (¬ (p3 = 8) → ((p3 = 10 → wj_X10_goHandles_17 σ p1 p2 p3 p4 post) ∧ (¬ (p3 = 10) → wj_X10_goHandles_22 σ p1 p2 p3 p4 0 post))))))
set_option maxHeartbeats 4000000 in
set_option maxRecDepth 100000 in
theorem io_c_X10_goHandles (l : Launch) (D : va_G) (ca : Nat → ClassId) (ad : Nat → Nat) (A : Nat → Prop) (σ : io_M) (p1 : Int32) (p2 : Int32) (p3 : Int32) (p4 : Int32) (post : io_M → Prop) (hw : wp_X10_goHandles σ p1 p2 p3 p4 post) : Met l yX10_goHandles (.code yX10_goHandles cX10_goHandles 7 none :: io_tb) (io_rm 4) (va_Pc [.ref (ad 111), .int p1, .int p2, .int p3, .int p4] (io_W D ca ad A σ)) (va_Qv post (io_W D ca ad A) A) 0 0 A := by
  refine Met.ofW (cc := cX10_goHandles) (maxL := 7) (ret := none) (by decide) rfl ?_
  intro p e s m args below meth c s₁ Bd hml hv
  obtain ⟨rfl, hW0⟩ := hv
  have Z := io_Z.start hW0
  have B : CallFix p m c cX10_goHandles 7 s _ io_tb RX10 := ⟨Bd.exec, Bd.bytes, hml, findClass_of_methodNamed Bd.named, fun w hw => atoms_spec (ws := (.code yX10_goHandles cX10_goHandles 7 none :: io_tb)) Bd.pre w (List.mem_cons_of_mem _ hw)⟩
  have hr := Bd.returns
  have hlk := Bd.notSynchronized
  have hl := lv_entry ([.ref (ad 111), .int p1, .int p2, .int p3, .int p4]) (n := 7) (Nat.le_of_ble_eq_true rfl)
  rw [lg_entry_eq]
  generalize (lg_sl ([.ref (ad 111), .int p1, .int p2, .int p3, .int p4]) ++ List.replicate (7 - (lg_sl ([.ref (ad 111), .int p1, .int p2, .int p3, .int p4])).length) Slot.unset).toArray = ls at hl ⊢
  have hl : lv_has ls 7 [(0, .ref (ad 111)), (1, .int p1), (2, .int p2), (3, .int p3), (4, .int p4)] := hl
  show W p l e (io_rm 4) s m _ below meth c s.heap [] 0 0 _ (F0 m 0 ls [])
  have JN64 : ∀ (σ : io_M) (x1 : Int32) (x2 : Int32) (y0 : Int32) (y1 : Int32), wj_X10_goHandles_64 σ x1 x2 y0 y1 post → ∀ (H : Heap) (locs : List Loc), io_Z D ca ad A s H locs σ → ∀ ls : Array Slot, lv_has ls 7 [(0, .ref (ad 111)), (1, .int x1), (2, .int x2)] → W p l e (io_rm 4) s m ([.ref (ad 111), .int p1, .int p2, .int p3, .int p4] : List Value).toArray below meth c H locs 0 0 (MQ below (va_Qv post (io_W D ca ad A) A) ([.ref (ad 111), .int p1, .int p2, .int p3, .int p4] : List Value).toArray s 0 0 A) (F0 m 64 ls [.int y0, .int y1, .ref (ad 111)]) := by
    intro σ x1 x2 y0 y1 hw H locs Z ls hl
    unfold wj_X10_goHandles_64 at hw
    refine io_call_i Z (io_runV (ci := 10) (k := 111) [.int y1, .int y0] [] B Z (io_c_X10_isSort l D ca ad A _ y1 y0 _ hw) io_k_10_235 (io_hR (by decide) (by decide)) rfl (by decide) (io_e_111 _) rfl hl.1 (Nat.le_of_ble_eq_true rfl) dX10_goHandles_64 ⟨Nat.le_refl _, Nat.le_refl _⟩) (fun r101 s102 H locs hw Z => ?_)
    obtain ⟨b103, hw⟩ := hw
    refine lv_if_eq (tgt := 90) B.1 B.2.1 dX10_goHandles_67 (by decide) (fun k104 => ?_) (fun k104 => ?_)
    · have hw := hw.1 k104
      exact io_ret_v B Z hr hlk hw dX10_goHandles_90
    · have hw := hw.2 k104
      refine lv_aload_n B.1 B.2.1 dX10_goHandles_70 rfl (lv_at hl 0 rfl) ?_
      refine io_g_10_41 B Z dX10_goHandles_71 ?_
      refine lv_iload_n B.1 B.2.1 dX10_goHandles_74 rfl (lv_at hl 1 rfl) ?_
      refine lv_aload_n B.1 B.2.1 dX10_goHandles_75 rfl (lv_at hl 0 rfl) ?_
      refine io_g_10_47 B Z dX10_goHandles_76 ?_
      refine io_iast B Z 142 (by decide) io_e_142 hw.1 dX10_goHandles_79 (fun s105 H locs e106 Z => ?_)
      have hw := hw.2 s105 e106
      refine lv_aload_n B.1 B.2.1 dX10_goHandles_80 rfl (lv_at hl 0 rfl) ?_
      refine lv_aload_n B.1 B.2.1 dX10_goHandles_81 rfl (lv_at hl 0 rfl) ?_
      refine io_g_10_12 B Z dX10_goHandles_82 ?_
      refine lv_iload_n B.1 B.2.1 dX10_goHandles_85 rfl (lv_at hl 2 rfl) ?_
      refine io_iald B Z 120 (by decide) io_e_120 hw.1 dX10_goHandles_86 ?_
      have hw := hw.2
      refine io_call_v Z (io_runV (ci := 10) (k := 111) [.int (s105 120 (x2).toNatClampNeg)] [] B Z (io_c_X10_begin l D ca ad A _ (s105 120 (x2).toNatClampNeg) _ hw) io_k_10_209 (io_hR (by decide) (by decide)) rfl (by decide) (io_e_111 _) rfl hl.1 (Nat.le_of_ble_eq_true rfl) dX10_goHandles_87 ⟨Nat.le_refl _, Nat.le_refl _⟩) (fun s108 H locs hw Z => ?_)
      exact io_ret_v B Z hr hlk hw dX10_goHandles_90
  have JN91 : ∀ (σ : io_M) (x1 : Int32) (x2 : Int32) (x3 : Int32) (x5 : Int32), wj_X10_goHandles_91 σ x1 x2 x3 x5 post → ∀ (H : Heap) (locs : List Loc), io_Z D ca ad A s H locs σ → ∀ ls : Array Slot, lv_has ls 7 [(0, .ref (ad 111)), (1, .int x1), (2, .int x2), (3, .int x3), (5, .int x5)] → W p l e (io_rm 4) s m ([.ref (ad 111), .int p1, .int p2, .int p3, .int p4] : List Value).toArray below meth c H locs 0 0 (MQ below (va_Qv post (io_W D ca ad A) A) ([.ref (ad 111), .int p1, .int p2, .int p3, .int p4] : List Value).toArray s 0 0 A) (F0 m 91 ls []) := by
    intro σ x1 x2 x3 x5 hw H locs Z ls hl
    unfold wj_X10_goHandles_91 at hw
    refine lv_iload B.1 B.2.1 dX10_goHandles_91 (lv_at hl 4 rfl) ?_
    refine lv_if_eq (tgt := 122) B.1 B.2.1 dX10_goHandles_93 (by decide) (fun k201 => ?_) (fun k201 => ?_)
    · have hw := hw.1 k201
      refine lv_iload_n B.1 B.2.1 dX10_goHandles_122 rfl (lv_at hl 3 rfl) ?_
      refine lv_bipush (v := 9) B.1 B.2.1 dX10_goHandles_123 (by decide) ?_
      refine lv_icmp_ne (tgt := 150) B.1 B.2.1 dX10_goHandles_125 (by decide) (fun k202 => ?_) (fun k202 => ?_)
      · have hw := hw.2 k202
        refine lv_aload_n B.1 B.2.1 dX10_goHandles_150 rfl (lv_at hl 0 rfl) ?_
        refine lv_iload_n B.1 B.2.1 dX10_goHandles_151 rfl (lv_at hl 2 rfl) ?_
        refine lv_iconst (v := 1) B.1 B.2.1 dX10_goHandles_152 (by decide) ?_
        refine io_call_i Z (io_runV (ci := 10) (k := 111) [.int x2, .int 1] [] B Z (io_c_X10_isSort l D ca ad A _ x2 1 _ hw) io_k_10_235 (io_hR (by decide) (by decide)) rfl (by decide) (io_e_111 _) rfl hl.1 (Nat.le_of_ble_eq_true rfl) dX10_goHandles_153 ⟨Nat.le_refl _, Nat.le_refl _⟩) (fun r203 s204 H locs hw Z => ?_)
        obtain ⟨b205, hw⟩ := hw
        refine lv_if_ne (tgt := 160) B.1 B.2.1 dX10_goHandles_156 (by decide) (fun k206 => ?_) (fun k206 => ?_)
        · have hw := hw.2 k206
          refine lv_aload_n B.1 B.2.1 dX10_goHandles_160 rfl (lv_at hl 0 rfl) ?_
          refine io_g_10_47 B Z dX10_goHandles_161 ?_
          refine lv_istore (lv' := [(6, .int (s204 111 47)), (0, .ref (ad 111)), (1, .int x1), (2, .int x2), (3, .int x3), (5, .int x5)]) B.1 B.2.1 dX10_goHandles_164 hl (by decide) rfl (fun ls hl => ?_)
          refine lv_iload_n B.1 B.2.1 dX10_goHandles_166 rfl (lv_at hl 4 rfl) ?_
          refine lv_iconst (v := 4) B.1 B.2.1 dX10_goHandles_167 (by decide) ?_
          refine lv_icmp_ne (tgt := 181) B.1 B.2.1 dX10_goHandles_168 (by decide) (fun k207 => ?_) (fun k207 => ?_)
          · have hw := hw.2 k207
            refine lv_aload_n B.1 B.2.1 dX10_goHandles_181 rfl (lv_at hl 1 rfl) ?_
            refine lv_iload_n B.1 B.2.1 dX10_goHandles_182 rfl (lv_at hl 3 rfl) ?_
            refine lv_iload B.1 B.2.1 dX10_goHandles_183 (lv_at hl 0 rfl) ?_
            refine io_call_i Z (io_runV (ci := 10) (k := 111) [.int x2, .int (s204 111 47)] [] B Z (io_c_X10_isOpen l D ca ad A _ x2 (s204 111 47) _ hw) io_k_10_251 (io_hR (by decide) (by decide)) rfl (by decide) (io_e_111 _) rfl hl.1 (Nat.le_of_ble_eq_true rfl) dX10_goHandles_185 ⟨Nat.le_refl _, Nat.le_refl _⟩) (fun r208 s209 H locs hw Z => ?_)
            obtain ⟨b210, hw⟩ := hw
            refine lv_if_eq (tgt := 199) B.1 B.2.1 dX10_goHandles_188 (by decide) (fun k211 => ?_) (fun k211 => ?_)
            · have hw := hw.1 k211
              exact io_ret_v B Z hr hlk hw dX10_goHandles_199
            · have hw := hw.2 k211
              refine lv_aload_n B.1 B.2.1 dX10_goHandles_191 rfl (lv_at hl 1 rfl) ?_
              refine lv_iload_n B.1 B.2.1 dX10_goHandles_192 rfl (lv_at hl 3 rfl) ?_
              refine lv_iload_n B.1 B.2.1 dX10_goHandles_193 rfl (lv_at hl 4 rfl) ?_
              refine lv_iload B.1 B.2.1 dX10_goHandles_194 (lv_at hl 0 rfl) ?_
              refine io_call_v Z (io_runV (ci := 10) (k := 111) [.int x2, .int x3, .int (s204 111 47)] [] B Z (io_c_X10_opened l D ca ad A _ x2 x3 (s204 111 47) _ hw) io_k_10_254 (io_hR (by decide) (by decide)) rfl (by decide) (io_e_111 _) rfl hl.1 (Nat.le_of_ble_eq_true rfl) dX10_goHandles_196 ⟨Nat.le_refl _, Nat.le_refl _⟩) (fun s213 H locs hw Z => ?_)
              exact io_ret_v B Z hr hlk hw dX10_goHandles_199
          · have hw := hw.1 k207
            refine lv_aload_n B.1 B.2.1 dX10_goHandles_171 rfl (lv_at hl 1 rfl) ?_
            refine lv_iload_n B.1 B.2.1 dX10_goHandles_172 rfl (lv_at hl 3 rfl) ?_
            refine lv_iload B.1 B.2.1 dX10_goHandles_173 (lv_at hl 0 rfl) ?_
            refine io_call_v Z (io_runV (ci := 10) (k := 111) [.int x2, .int (s204 111 47)] [] B Z (io_c_X10_close l D ca ad A _ x2 (s204 111 47) _ hw) io_k_10_248 (io_hR (by decide) (by decide)) rfl (by decide) (io_e_111 _) rfl hl.1 (Nat.le_of_ble_eq_true rfl) dX10_goHandles_175 ⟨Nat.le_refl _, Nat.le_refl _⟩) (fun s215 H locs hw Z => ?_)
            refine lv_goto (tgt := 199) B.1 B.2.1 dX10_goHandles_178 (by decide) ?_
            exact io_ret_v B Z hr hlk hw dX10_goHandles_199
        · have hw := hw.1 k206
          exact io_ret_v B Z hr hlk hw dX10_goHandles_159
      · have hw := hw.1 k202
        refine lv_aload_n B.1 B.2.1 dX10_goHandles_128 rfl (lv_at hl 0 rfl) ?_
        refine lv_iload_n B.1 B.2.1 dX10_goHandles_129 rfl (lv_at hl 2 rfl) ?_
        refine lv_iconst (v := 2) B.1 B.2.1 dX10_goHandles_130 (by decide) ?_
        refine io_call_i Z (io_runV (ci := 10) (k := 111) [.int x2, .int 2] [] B Z (io_c_X10_isSort l D ca ad A _ x2 2 _ hw) io_k_10_235 (io_hR (by decide) (by decide)) rfl (by decide) (io_e_111 _) rfl hl.1 (Nat.le_of_ble_eq_true rfl) dX10_goHandles_131 ⟨Nat.le_refl _, Nat.le_refl _⟩) (fun r216 s217 H locs hw Z => ?_)
        obtain ⟨b218, hw⟩ := hw
        refine lv_if_eq (tgt := 149) B.1 B.2.1 dX10_goHandles_134 (by decide) (fun k219 => ?_) (fun k219 => ?_)
        · have hw := hw.1 k219
          exact io_ret_v B Z hr hlk hw dX10_goHandles_149
        · have hw := hw.2 k219
          refine lv_aload_n B.1 B.2.1 dX10_goHandles_137 rfl (lv_at hl 0 rfl) ?_
          refine lv_iload_n B.1 B.2.1 dX10_goHandles_138 rfl (lv_at hl 2 rfl) ?_
          refine lv_aload_n B.1 B.2.1 dX10_goHandles_139 rfl (lv_at hl 0 rfl) ?_
          refine io_g_10_47 B Z dX10_goHandles_140 ?_
          refine lv_sipush (v := 1000) B.1 B.2.1 dX10_goHandles_143 (by decide) ?_
          refine io_call_v Z (io_runV (ci := 10) (k := 111) [.int x2, .int (s217 111 47), .int 1000] [] B Z (io_c_X10_list l D ca ad A _ x2 (s217 111 47) 1000 _ hw) io_k_10_245 (io_hR (by decide) (by decide)) rfl (by decide) (io_e_111 _) rfl hl.1 (Nat.le_of_ble_eq_true rfl) dX10_goHandles_146 ⟨Nat.le_refl _, Nat.le_refl _⟩) (fun s221 H locs hw Z => ?_)
          exact io_ret_v B Z hr hlk hw dX10_goHandles_149
    · have hw := hw.2 k201
      refine lv_aload_n B.1 B.2.1 dX10_goHandles_96 rfl (lv_at hl 0 rfl) ?_
      refine lv_iload_n B.1 B.2.1 dX10_goHandles_97 rfl (lv_at hl 2 rfl) ?_
      refine lv_iconst (v := 0) B.1 B.2.1 dX10_goHandles_98 (by decide) ?_
      refine io_call_i Z (io_runV (ci := 10) (k := 111) [.int x2, .int 0] [] B Z (io_c_X10_isSort l D ca ad A _ x2 0 _ hw) io_k_10_235 (io_hR (by decide) (by decide)) rfl (by decide) (io_e_111 _) rfl hl.1 (Nat.le_of_ble_eq_true rfl) dX10_goHandles_99 ⟨Nat.le_refl _, Nat.le_refl _⟩) (fun r222 s223 H locs hw Z => ?_)
      obtain ⟨b224, hw⟩ := hw
      refine lv_if_eq (tgt := 121) B.1 B.2.1 dX10_goHandles_102 (by decide) (fun k225 => ?_) (fun k225 => ?_)
      · have hw := hw.1 k225
        exact io_ret_v B Z hr hlk hw dX10_goHandles_121
      · have hw := hw.2 k225
        refine lv_aload_n B.1 B.2.1 dX10_goHandles_105 rfl (lv_at hl 0 rfl) ?_
        refine lv_iload_n B.1 B.2.1 dX10_goHandles_106 rfl (lv_at hl 2 rfl) ?_
        refine lv_iload_n B.1 B.2.1 dX10_goHandles_107 rfl (lv_at hl 3 rfl) ?_
        refine lv_aload_n B.1 B.2.1 dX10_goHandles_108 rfl (lv_at hl 0 rfl) ?_
        refine io_g_10_41 B Z dX10_goHandles_109 ?_
        refine lv_iload_n B.1 B.2.1 dX10_goHandles_112 rfl (lv_at hl 1 rfl) ?_
        refine io_iald B Z 142 (by decide) io_e_142 hw.1 dX10_goHandles_113 ?_
        have hw := hw.2
        refine lv_aload_n B.1 B.2.1 dX10_goHandles_114 rfl (lv_at hl 0 rfl) ?_
        refine io_g_10_47 B Z dX10_goHandles_115 ?_
        refine io_call_v Z (io_runV (ci := 10) (k := 111) [.int x2, .int x3, .int (s223 142 (x1).toNatClampNeg), .int (s223 111 47)] [] B Z (io_c_X10_pair l D ca ad A _ x2 x3 (s223 142 (x1).toNatClampNeg) (s223 111 47) _ hw) io_k_10_242 (io_hR (by decide) (by decide)) rfl (by decide) (io_e_111 _) rfl hl.1 (Nat.le_of_ble_eq_true rfl) dX10_goHandles_118 ⟨Nat.le_refl _, Nat.le_refl _⟩) (fun s227 H locs hw Z => ?_)
        exact io_ret_v B Z hr hlk hw dX10_goHandles_121
  have JN22 : ∀ (σ : io_M) (x1 : Int32) (x2 : Int32) (x3 : Int32) (x4 : Int32) (y0 : Int32), wj_X10_goHandles_22 σ x1 x2 x3 x4 y0 post → ∀ (H : Heap) (locs : List Loc), io_Z D ca ad A s H locs σ → ∀ ls : Array Slot, lv_has ls 7 [(0, .ref (ad 111)), (1, .int x1), (2, .int x2), (3, .int x3), (4, .int x4)] → W p l e (io_rm 4) s m ([.ref (ad 111), .int p1, .int p2, .int p3, .int p4] : List Value).toArray below meth c H locs 0 0 (MQ below (va_Qv post (io_W D ca ad A) A) ([.ref (ad 111), .int p1, .int p2, .int p3, .int p4] : List Value).toArray s 0 0 A) (F0 m 22 ls [.int y0]) := by
    intro σ x1 x2 x3 x4 y0 hw H locs Z ls hl
    unfold wj_X10_goHandles_22 at hw
    refine lv_istore (lv' := [(5, .int y0), (0, .ref (ad 111)), (1, .int x1), (2, .int x2), (3, .int x3), (4, .int x4)]) B.1 B.2.1 dX10_goHandles_22 hl (by decide) rfl (fun ls hl => ?_)
    refine lv_iload B.1 B.2.1 dX10_goHandles_24 (lv_at hl 5 rfl) ?_
    refine lv_if_ne (tgt := 40) B.1 B.2.1 dX10_goHandles_26 (by decide) (fun k301 => ?_) (fun k301 => ?_)
    · have hw := hw.2 k301
      refine lv_iload B.1 B.2.1 dX10_goHandles_40 (lv_at hl 5 rfl) ?_
      refine lv_iconst (v := 1) B.1 B.2.1 dX10_goHandles_42 (by decide) ?_
      refine lv_icmp_ne (tgt := 91) B.1 B.2.1 dX10_goHandles_43 (by decide) (fun k302 => ?_) (fun k302 => ?_)
      · have hw := hw.2 k302
        exact JN91 _ x1 x2 x3 y0 hw _ _ Z _ (lv_sub (l' := [(0, .ref (ad 111)), (1, .int x1), (2, .int x2), (3, .int x3), (5, .int y0)]) hl [1, 2, 3, 4, 0] rfl)
      · have hw := hw.1 k302
        refine lv_iload B.1 B.2.1 dX10_goHandles_46 (lv_at hl 0 rfl) ?_
        refine lv_if_eq (tgt := 91) B.1 B.2.1 dX10_goHandles_48 (by decide) (fun k303 => ?_) (fun k303 => ?_)
        · have hw := hw.1 k303
          exact JN91 _ x1 x2 x3 y0 hw _ _ Z _ (lv_sub (l' := [(0, .ref (ad 111)), (1, .int x1), (2, .int x2), (3, .int x3), (5, .int y0)]) hl [1, 2, 3, 4, 0] rfl)
        · have hw := hw.2 k303
          refine lv_aload_n B.1 B.2.1 dX10_goHandles_51 rfl (lv_at hl 1 rfl) ?_
          refine lv_iload_n B.1 B.2.1 dX10_goHandles_52 rfl (lv_at hl 3 rfl) ?_
          refine lv_iload_n B.1 B.2.1 dX10_goHandles_53 rfl (lv_at hl 4 rfl) ?_
          refine lv_bipush (v := 8) B.1 B.2.1 dX10_goHandles_54 (by decide) ?_
          refine lv_icmp_ne (tgt := 63) B.1 B.2.1 dX10_goHandles_56 (by decide) (fun k304 => ?_) (fun k304 => ?_)
          · have hw := hw.2 k304
            refine lv_iconst (v := 1) B.1 B.2.1 dX10_goHandles_63 (by decide) ?_
            exact JN64 _ x1 x2 1 x2 hw _ _ Z _ (lv_sub (l' := [(0, .ref (ad 111)), (1, .int x1), (2, .int x2)]) hl [1, 2, 3] rfl)
          · have hw := hw.1 k304
            refine lv_iconst (v := 2) B.1 B.2.1 dX10_goHandles_59 (by decide) ?_
            refine lv_goto (tgt := 64) B.1 B.2.1 dX10_goHandles_60 (by decide) ?_
            exact JN64 _ x1 x2 2 x2 hw _ _ Z _ (lv_sub (l' := [(0, .ref (ad 111)), (1, .int x1), (2, .int x2)]) hl [1, 2, 3] rfl)
    · have hw := hw.1 k301
      refine lv_aload_n B.1 B.2.1 dX10_goHandles_29 rfl (lv_at hl 1 rfl) ?_
      refine lv_aload_n B.1 B.2.1 dX10_goHandles_30 rfl (lv_at hl 1 rfl) ?_
      refine io_g_10_11 B Z dX10_goHandles_31 ?_
      refine lv_iload_n B.1 B.2.1 dX10_goHandles_34 rfl (lv_at hl 3 rfl) ?_
      refine io_iald B Z 119 (by decide) io_e_119 hw.1 dX10_goHandles_35 ?_
      have hw := hw.2
      refine io_call_v Z (io_runV (ci := 10) (k := 111) [.int (σ 119 (x2).toNatClampNeg)] [] B Z (io_c_X10_begin l D ca ad A _ (σ 119 (x2).toNatClampNeg) _ hw) io_k_10_209 (io_hR (by decide) (by decide)) rfl (by decide) (io_e_111 _) rfl hl.1 (Nat.le_of_ble_eq_true rfl) dX10_goHandles_36 ⟨Nat.le_refl _, Nat.le_refl _⟩) (fun s306 H locs hw Z => ?_)
      exact io_ret_v B Z hr hlk hw dX10_goHandles_39
  have JN17 : ∀ (σ : io_M) (x1 : Int32) (x2 : Int32) (x3 : Int32) (x4 : Int32), wj_X10_goHandles_17 σ x1 x2 x3 x4 post → ∀ (H : Heap) (locs : List Loc), io_Z D ca ad A s H locs σ → ∀ ls : Array Slot, lv_has ls 7 [(0, .ref (ad 111)), (1, .int x1), (2, .int x2), (3, .int x3), (4, .int x4)] → W p l e (io_rm 4) s m ([.ref (ad 111), .int p1, .int p2, .int p3, .int p4] : List Value).toArray below meth c H locs 0 0 (MQ below (va_Qv post (io_W D ca ad A) A) ([.ref (ad 111), .int p1, .int p2, .int p3, .int p4] : List Value).toArray s 0 0 A) (F0 m 17 ls []) := by
    intro σ x1 x2 x3 x4 hw H locs Z ls hl
    unfold wj_X10_goHandles_17 at hw
    refine lv_iconst (v := 1) B.1 B.2.1 dX10_goHandles_17 (by decide) ?_
    refine lv_goto (tgt := 22) B.1 B.2.1 dX10_goHandles_18 (by decide) ?_
    exact JN22 _ x1 x2 x3 x4 1 hw _ _ Z _ (lv_sub (l' := [(0, .ref (ad 111)), (1, .int x1), (2, .int x2), (3, .int x3), (4, .int x4)]) hl [0, 1, 2, 3, 4] rfl)
  unfold wp_X10_goHandles at hw
  refine lv_iload_n B.1 B.2.1 dX10_goHandles_0 rfl (lv_at hl 3 rfl) ?_
  refine lv_iconst (v := 5) B.1 B.2.1 dX10_goHandles_1 (by decide) ?_
  refine lv_icmp_eq (tgt := 17) B.1 B.2.1 dX10_goHandles_2 (by decide) (fun k2 => ?_) (fun k2 => ?_)
  · have hw := hw.1 k2
    exact JN17 _ p1 p2 p3 p4 hw _ _ Z _ (lv_sub (l' := [(0, .ref (ad 111)), (1, .int p1), (2, .int p2), (3, .int p3), (4, .int p4)]) hl [0, 1, 2, 3, 4] rfl)
  · have hw := hw.2 k2
    refine lv_iload_n B.1 B.2.1 dX10_goHandles_5 rfl (lv_at hl 3 rfl) ?_
    refine lv_bipush (v := 8) B.1 B.2.1 dX10_goHandles_6 (by decide) ?_
    refine lv_icmp_eq (tgt := 17) B.1 B.2.1 dX10_goHandles_8 (by decide) (fun k3 => ?_) (fun k3 => ?_)
    · have hw := hw.1 k3
      exact JN17 _ p1 p2 p3 p4 hw _ _ Z _ (lv_sub (l' := [(0, .ref (ad 111)), (1, .int p1), (2, .int p2), (3, .int p3), (4, .int p4)]) hl [0, 1, 2, 3, 4] rfl)
    · have hw := hw.2 k3
      refine lv_iload_n B.1 B.2.1 dX10_goHandles_11 rfl (lv_at hl 3 rfl) ?_
      refine lv_bipush (v := 10) B.1 B.2.1 dX10_goHandles_12 (by decide) ?_
      refine lv_icmp_ne (tgt := 21) B.1 B.2.1 dX10_goHandles_14 (by decide) (fun k4 => ?_) (fun k4 => ?_)
      · have hw := hw.2 k4
        refine lv_iconst (v := 0) B.1 B.2.1 dX10_goHandles_21 (by decide) ?_
        exact JN22 _ p1 p2 p3 p4 0 hw _ _ Z _ (lv_sub (l' := [(0, .ref (ad 111)), (1, .int p1), (2, .int p2), (3, .int p3), (4, .int p4)]) hl [0, 1, 2, 3, 4] rfl)
      · have hw := hw.1 k4
        exact JN17 _ p1 p2 p3 p4 hw _ _ Z _ (lv_sub (l' := [(0, .ref (ad 111)), (1, .int p1), (2, .int p2), (3, .int p3), (4, .int p4)]) hl [0, 1, 2, 3, 4] rfl)
def wj_X10_goTimes_25 (σ : io_M) (x1 : Int32) (x2 : Int32) (post : io_M → Prop) : Prop := (vp_in x1 64 ∧ (((σ 142 (x1).toNatClampNeg) ≤ 0 → (wp_X10_gives σ 0 0 (fun s103 => post s103))) ∧ (¬ ((σ 142 (x1).toNatClampNeg) ≤ 0) → (vp_in x1 64 ∧ (vp_in x1 64 ∧ ∀ s104, s104 = io_up σ 142 (x1).toNatClampNeg (((σ 142 (x1).toNatClampNeg) - 1)) → (vp_in x2 60 ∧ (wp_X10_begin s104 (s104 120 (x2).toNatClampNeg) (fun s107 => post s107))))))))
def wp_X10_goTimes (σ : io_M) (p1 : Int32) (p2 : Int32) (p3 : Int32) (post : io_M → Prop) : Prop := ((p3 = 1 → (wp_X10_isSort σ p2 0 (fun r3 s4 => ((r3 = 0 → post s4) ∧ (¬ (r3 = 0) → (vp_in p1 64 ∧ ∀ s7, s7 = io_up s4 142 (p1).toNatClampNeg ((s4 111 47)) → wj_X10_goTimes_25 s7 p1 p2 post)))))) ∧ (¬ (p3 = 1) → wj_X10_goTimes_25 σ p1 p2 post))
set_option maxHeartbeats 4000000 in
set_option maxRecDepth 100000 in
theorem io_c_X10_goTimes (l : Launch) (D : va_G) (ca : Nat → ClassId) (ad : Nat → Nat) (A : Nat → Prop) (σ : io_M) (p1 : Int32) (p2 : Int32) (p3 : Int32) (post : io_M → Prop) (hw : wp_X10_goTimes σ p1 p2 p3 post) : Met l yX10_goTimes (.code yX10_goTimes cX10_goTimes 4 none :: io_tb) (io_rm 2) (va_Pc [.ref (ad 111), .int p1, .int p2, .int p3] (io_W D ca ad A σ)) (va_Qv post (io_W D ca ad A) A) 0 0 A := by
  refine Met.ofW (cc := cX10_goTimes) (maxL := 4) (ret := none) (by decide) rfl ?_
  intro p e s m args below meth c s₁ Bd hml hv
  obtain ⟨rfl, hW0⟩ := hv
  have Z := io_Z.start hW0
  have B : CallFix p m c cX10_goTimes 4 s _ io_tb RX10 := ⟨Bd.exec, Bd.bytes, hml, findClass_of_methodNamed Bd.named, fun w hw => atoms_spec (ws := (.code yX10_goTimes cX10_goTimes 4 none :: io_tb)) Bd.pre w (List.mem_cons_of_mem _ hw)⟩
  have hr := Bd.returns
  have hlk := Bd.notSynchronized
  have hl := lv_entry ([.ref (ad 111), .int p1, .int p2, .int p3]) (n := 4) (Nat.le_of_ble_eq_true rfl)
  rw [lg_entry_eq]
  generalize (lg_sl ([.ref (ad 111), .int p1, .int p2, .int p3]) ++ List.replicate (4 - (lg_sl ([.ref (ad 111), .int p1, .int p2, .int p3])).length) Slot.unset).toArray = ls at hl ⊢
  have hl : lv_has ls 4 [(0, .ref (ad 111)), (1, .int p1), (2, .int p2), (3, .int p3)] := hl
  show W p l e (io_rm 2) s m _ below meth c s.heap [] 0 0 _ (F0 m 0 ls [])
  have JN25 : ∀ (σ : io_M) (x1 : Int32) (x2 : Int32), wj_X10_goTimes_25 σ x1 x2 post → ∀ (H : Heap) (locs : List Loc), io_Z D ca ad A s H locs σ → ∀ ls : Array Slot, lv_has ls 4 [(0, .ref (ad 111)), (1, .int x1), (2, .int x2)] → W p l e (io_rm 2) s m ([.ref (ad 111), .int p1, .int p2, .int p3] : List Value).toArray below meth c H locs 0 0 (MQ below (va_Qv post (io_W D ca ad A) A) ([.ref (ad 111), .int p1, .int p2, .int p3] : List Value).toArray s 0 0 A) (F0 m 25 ls []) := by
    intro σ x1 x2 hw H locs Z ls hl
    unfold wj_X10_goTimes_25 at hw
    refine lv_aload_n B.1 B.2.1 dX10_goTimes_25 rfl (lv_at hl 0 rfl) ?_
    refine io_g_10_41 B Z dX10_goTimes_26 ?_
    refine lv_iload_n B.1 B.2.1 dX10_goTimes_29 rfl (lv_at hl 1 rfl) ?_
    refine io_iald B Z 142 (by decide) io_e_142 hw.1 dX10_goTimes_30 ?_
    have hw := hw.2
    refine lv_if_le (tgt := 57) B.1 B.2.1 dX10_goTimes_31 (by decide) (fun k101 => ?_) (fun k101 => ?_)
    · have hw := hw.1 k101
      refine lv_aload_n B.1 B.2.1 dX10_goTimes_57 rfl (lv_at hl 0 rfl) ?_
      refine lv_iconst (v := 0) B.1 B.2.1 dX10_goTimes_58 (by decide) ?_
      refine lv_iconst (v := 0) B.1 B.2.1 dX10_goTimes_59 (by decide) ?_
      refine io_call_v Z (io_runV (ci := 10) (k := 111) [.int 0, .int 0] [] B Z (io_c_X10_gives l D ca ad A _ 0 0 _ hw) io_k_10_179 (io_hR (by decide) (by decide)) rfl (by decide) (io_e_111 _) rfl hl.1 (Nat.le_of_ble_eq_true rfl) dX10_goTimes_60 ⟨Nat.le_refl _, Nat.le_refl _⟩) (fun s103 H locs hw Z => ?_)
      exact io_ret_v B Z hr hlk hw dX10_goTimes_63
    · have hw := hw.2 k101
      refine lv_aload_n B.1 B.2.1 dX10_goTimes_34 rfl (lv_at hl 0 rfl) ?_
      refine io_g_10_41 B Z dX10_goTimes_35 ?_
      refine lv_iload_n B.1 B.2.1 dX10_goTimes_38 rfl (lv_at hl 1 rfl) ?_
      refine lv_dup2_11 B.1 B.2.1 dX10_goTimes_39 rfl rfl ?_
      refine io_iald B Z 142 (by decide) io_e_142 hw.1 dX10_goTimes_40 ?_
      have hw := hw.2
      refine lv_iconst (v := 1) B.1 B.2.1 dX10_goTimes_41 (by decide) ?_
      refine lv_isub B.1 B.2.1 dX10_goTimes_42 ?_
      refine io_iast B Z 142 (by decide) io_e_142 hw.1 dX10_goTimes_43 (fun s104 H locs e105 Z => ?_)
      have hw := hw.2 s104 e105
      refine lv_aload_n B.1 B.2.1 dX10_goTimes_44 rfl (lv_at hl 0 rfl) ?_
      refine lv_aload_n B.1 B.2.1 dX10_goTimes_45 rfl (lv_at hl 0 rfl) ?_
      refine io_g_10_12 B Z dX10_goTimes_46 ?_
      refine lv_iload_n B.1 B.2.1 dX10_goTimes_49 rfl (lv_at hl 2 rfl) ?_
      refine io_iald B Z 120 (by decide) io_e_120 hw.1 dX10_goTimes_50 ?_
      have hw := hw.2
      refine io_call_v Z (io_runV (ci := 10) (k := 111) [.int (s104 120 (x2).toNatClampNeg)] [] B Z (io_c_X10_begin l D ca ad A _ (s104 120 (x2).toNatClampNeg) _ hw) io_k_10_209 (io_hR (by decide) (by decide)) rfl (by decide) (io_e_111 _) rfl hl.1 (Nat.le_of_ble_eq_true rfl) dX10_goTimes_51 ⟨Nat.le_refl _, Nat.le_refl _⟩) (fun s107 H locs hw Z => ?_)
      refine lv_goto (tgt := 63) B.1 B.2.1 dX10_goTimes_54 (by decide) ?_
      exact io_ret_v B Z hr hlk hw dX10_goTimes_63
  unfold wp_X10_goTimes at hw
  refine lv_iload_n B.1 B.2.1 dX10_goTimes_0 rfl (lv_at hl 3 rfl) ?_
  refine lv_iconst (v := 1) B.1 B.2.1 dX10_goTimes_1 (by decide) ?_
  refine lv_icmp_ne (tgt := 25) B.1 B.2.1 dX10_goTimes_2 (by decide) (fun k2 => ?_) (fun k2 => ?_)
  · have hw := hw.2 k2
    exact JN25 _ p1 p2 hw _ _ Z _ (lv_sub (l' := [(0, .ref (ad 111)), (1, .int p1), (2, .int p2)]) hl [0, 1, 2] rfl)
  · have hw := hw.1 k2
    refine lv_aload_n B.1 B.2.1 dX10_goTimes_5 rfl (lv_at hl 0 rfl) ?_
    refine lv_iload_n B.1 B.2.1 dX10_goTimes_6 rfl (lv_at hl 2 rfl) ?_
    refine lv_iconst (v := 0) B.1 B.2.1 dX10_goTimes_7 (by decide) ?_
    refine io_call_i Z (io_runV (ci := 10) (k := 111) [.int p2, .int 0] [] B Z (io_c_X10_isSort l D ca ad A _ p2 0 _ hw) io_k_10_235 (io_hR (by decide) (by decide)) rfl (by decide) (io_e_111 _) rfl hl.1 (Nat.le_of_ble_eq_true rfl) dX10_goTimes_8 ⟨Nat.le_refl _, Nat.le_refl _⟩) (fun r3 s4 H locs hw Z => ?_)
    obtain ⟨b5, hw⟩ := hw
    refine lv_if_ne (tgt := 15) B.1 B.2.1 dX10_goTimes_11 (by decide) (fun k6 => ?_) (fun k6 => ?_)
    · have hw := hw.2 k6
      refine lv_aload_n B.1 B.2.1 dX10_goTimes_15 rfl (lv_at hl 0 rfl) ?_
      refine io_g_10_41 B Z dX10_goTimes_16 ?_
      refine lv_iload_n B.1 B.2.1 dX10_goTimes_19 rfl (lv_at hl 1 rfl) ?_
      refine lv_aload_n B.1 B.2.1 dX10_goTimes_20 rfl (lv_at hl 0 rfl) ?_
      refine io_g_10_47 B Z dX10_goTimes_21 ?_
      refine io_iast B Z 142 (by decide) io_e_142 hw.1 dX10_goTimes_24 (fun s7 H locs e8 Z => ?_)
      have hw := hw.2 s7 e8
      exact JN25 _ p1 p2 hw _ _ Z _ (lv_sub (l' := [(0, .ref (ad 111)), (1, .int p1), (2, .int p2)]) hl [0, 1, 2] rfl)
    · have hw := hw.1 k6
      exact io_ret_v B Z hr hlk hw dX10_goTimes_14
def wp_X10_goPlain (σ : io_M) (p1 : Int32) (p2 : Int32) (p3 : Int32) (p4 : Int32) (post : io_M → Prop) : Prop := ((p4 = 0 → (vp_in p2 60 ∧ (wp_X10_begin σ (σ 119 (p2).toNatClampNeg) (fun s43 => post s43)))) ∧ (¬ (p4 = 0) → ((p3 = 19 → ((p4 = 1 → (vp_in p2 60 ∧ (wp_X10_begin σ (σ 120 (p2).toNatClampNeg) (fun s41 => post s41)))) ∧ (¬ (p4 = 1) → (∀ s38, s38 = io_up σ 111 38 ((σ 111 38) - 1) → post s38)))) ∧ (¬ (p3 = 19) → ((p3 = 20 → ((p4 = 2 → (∀ s35, s35 = io_up σ 111 38 ((σ 111 38) - 1) → post s35)) ∧ (¬ (p4 = 2) → (wp_X10_isSort σ p2 0 (fun r26 s27 => ((r26 = 0 → post s27) ∧ (¬ (r26 = 0) → (((s27 111 47) = 0 → (vp_in p2 60 ∧ (wp_X10_begin s27 (s27 121 (p2).toNatClampNeg) (fun s32 => post s32)))) ∧ (¬ ((s27 111 47) = 0) → (vp_in p2 60 ∧ (wp_X10_begin s27 (s27 120 (p2).toNatClampNeg) (fun s34 => post s34)))))))))))) ∧ (¬ (p3 = 20) → ((p3 = 23 → (wp_X10_goTimes σ p1 p2 p4 (fun s24 => post s24))) ∧ (¬ (p3 = 23) → (wp_X10_isSort σ p2 0 (fun r6 s7 => ((r6 = 0 → post s7) ∧ (¬ (r6 = 0) → ((p4 = 1 → (vp_in p1 64 ∧ ∀ s19, s19 = io_up s7 142 (p1).toNatClampNeg ((s7 111 47)) → (vp_in p2 60 ∧ (wp_X10_begin s19 (s19 120 (p2).toNatClampNeg) (fun s22 => post s22))))) ∧ (¬ (p4 = 1) → ((p3 = 22 → (vp_in p1 64 ∧ (wp_X10_gives s7 0 ((s7 142 (p1).toNatClampNeg) + (s7 111 47)) (fun s18 => post s18)))) ∧ (¬ (p3 = 22) → (vp_in p1 64 ∧ (((s7 111 47) ≤ (s7 142 (p1).toNatClampNeg) → (wp_X10_gives s7 0 0 (fun s14 => post s14))) ∧ (¬ ((s7 111 47) ≤ (s7 142 (p1).toNatClampNeg)) → (wp_X10_gives s7 0 1 (fun s16 => post s16)))))))))))))))))))))
set_option maxHeartbeats 4000000 in
set_option maxRecDepth 100000 in
theorem io_c_X10_goPlain (l : Launch) (D : va_G) (ca : Nat → ClassId) (ad : Nat → Nat) (A : Nat → Prop) (σ : io_M) (p1 : Int32) (p2 : Int32) (p3 : Int32) (p4 : Int32) (post : io_M → Prop) (hw : wp_X10_goPlain σ p1 p2 p3 p4 post) : Met l yX10_goPlain (.code yX10_goPlain cX10_goPlain 5 none :: io_tb) (io_rm 3) (va_Pc [.ref (ad 111), .int p1, .int p2, .int p3, .int p4] (io_W D ca ad A σ)) (va_Qv post (io_W D ca ad A) A) 0 0 A := by
  refine Met.ofW (cc := cX10_goPlain) (maxL := 5) (ret := none) (by decide) rfl ?_
  intro p e s m args below meth c s₁ Bd hml hv
  obtain ⟨rfl, hW0⟩ := hv
  have Z := io_Z.start hW0
  have B : CallFix p m c cX10_goPlain 5 s _ io_tb RX10 := ⟨Bd.exec, Bd.bytes, hml, findClass_of_methodNamed Bd.named, fun w hw => atoms_spec (ws := (.code yX10_goPlain cX10_goPlain 5 none :: io_tb)) Bd.pre w (List.mem_cons_of_mem _ hw)⟩
  have hr := Bd.returns
  have hlk := Bd.notSynchronized
  have hl := lv_entry ([.ref (ad 111), .int p1, .int p2, .int p3, .int p4]) (n := 5) (Nat.le_of_ble_eq_true rfl)
  rw [lg_entry_eq]
  generalize (lg_sl ([.ref (ad 111), .int p1, .int p2, .int p3, .int p4]) ++ List.replicate (5 - (lg_sl ([.ref (ad 111), .int p1, .int p2, .int p3, .int p4])).length) Slot.unset).toArray = ls at hl ⊢
  have hl : lv_has ls 5 [(0, .ref (ad 111)), (1, .int p1), (2, .int p2), (3, .int p3), (4, .int p4)] := hl
  show W p l e (io_rm 3) s m _ below meth c s.heap [] 0 0 _ (F0 m 0 ls [])
  unfold wp_X10_goPlain at hw
  refine lv_iload B.1 B.2.1 dX10_goPlain_0 (lv_at hl 4 rfl) ?_
  refine lv_if_ne (tgt := 18) B.1 B.2.1 dX10_goPlain_2 (by decide) (fun k2 => ?_) (fun k2 => ?_)
  · have hw := hw.2 k2
    refine lv_iload_n B.1 B.2.1 dX10_goPlain_18 rfl (lv_at hl 3 rfl) ?_
    refine lv_bipush (v := 19) B.1 B.2.1 dX10_goPlain_19 (by decide) ?_
    refine lv_icmp_ne (tgt := 56) B.1 B.2.1 dX10_goPlain_21 (by decide) (fun k3 => ?_) (fun k3 => ?_)
    · have hw := hw.2 k3
      refine lv_iload_n B.1 B.2.1 dX10_goPlain_56 rfl (lv_at hl 3 rfl) ?_
      refine lv_bipush (v := 20) B.1 B.2.1 dX10_goPlain_57 (by decide) ?_
      refine lv_icmp_ne (tgt := 119) B.1 B.2.1 dX10_goPlain_59 (by decide) (fun k4 => ?_) (fun k4 => ?_)
      · have hw := hw.2 k4
        refine lv_iload_n B.1 B.2.1 dX10_goPlain_119 rfl (lv_at hl 3 rfl) ?_
        refine lv_bipush (v := 23) B.1 B.2.1 dX10_goPlain_120 (by decide) ?_
        refine lv_icmp_ne (tgt := 136) B.1 B.2.1 dX10_goPlain_122 (by decide) (fun k5 => ?_) (fun k5 => ?_)
        · have hw := hw.2 k5
          refine lv_aload_n B.1 B.2.1 dX10_goPlain_136 rfl (lv_at hl 0 rfl) ?_
          refine lv_iload_n B.1 B.2.1 dX10_goPlain_137 rfl (lv_at hl 2 rfl) ?_
          refine lv_iconst (v := 0) B.1 B.2.1 dX10_goPlain_138 (by decide) ?_
          refine io_call_i Z (io_runV (ci := 10) (k := 111) [.int p2, .int 0] [] B Z (io_c_X10_isSort l D ca ad A _ p2 0 _ hw) io_k_10_235 (io_hR (by decide) (by decide)) rfl (by decide) (io_e_111 _) rfl hl.1 (Nat.le_of_ble_eq_true rfl) dX10_goPlain_139 ⟨Nat.le_refl _, Nat.le_refl _⟩) (fun r6 s7 H locs hw Z => ?_)
          obtain ⟨b8, hw⟩ := hw
          refine lv_if_eq (tgt := 217) B.1 B.2.1 dX10_goPlain_142 (by decide) (fun k9 => ?_) (fun k9 => ?_)
          · have hw := hw.1 k9
            exact io_ret_v B Z hr hlk hw dX10_goPlain_217
          · have hw := hw.2 k9
            refine lv_iload B.1 B.2.1 dX10_goPlain_145 (lv_at hl 4 rfl) ?_
            refine lv_iconst (v := 1) B.1 B.2.1 dX10_goPlain_147 (by decide) ?_
            refine lv_icmp_ne (tgt := 174) B.1 B.2.1 dX10_goPlain_148 (by decide) (fun k10 => ?_) (fun k10 => ?_)
            · have hw := hw.2 k10
              refine lv_aload_n B.1 B.2.1 dX10_goPlain_174 rfl (lv_at hl 0 rfl) ?_
              refine lv_iconst (v := 0) B.1 B.2.1 dX10_goPlain_175 (by decide) ?_
              refine lv_iload_n B.1 B.2.1 dX10_goPlain_176 rfl (lv_at hl 3 rfl) ?_
              refine lv_bipush (v := 22) B.1 B.2.1 dX10_goPlain_177 (by decide) ?_
              refine lv_icmp_ne (tgt := 196) B.1 B.2.1 dX10_goPlain_179 (by decide) (fun k11 => ?_) (fun k11 => ?_)
              · have hw := hw.2 k11
                refine lv_aload_n B.1 B.2.1 dX10_goPlain_196 rfl (lv_at hl 0 rfl) ?_
                refine io_g_10_41 B Z dX10_goPlain_197 ?_
                refine lv_iload_n B.1 B.2.1 dX10_goPlain_200 rfl (lv_at hl 1 rfl) ?_
                refine io_iald B Z 142 (by decide) io_e_142 hw.1 dX10_goPlain_201 ?_
                have hw := hw.2
                refine lv_aload_n B.1 B.2.1 dX10_goPlain_202 rfl (lv_at hl 0 rfl) ?_
                refine io_g_10_47 B Z dX10_goPlain_203 ?_
                refine lv_icmp_ge (tgt := 213) B.1 B.2.1 dX10_goPlain_206 (by decide) (fun k12 => ?_) (fun k12 => ?_)
                · have hw := hw.1 k12
                  refine lv_iconst (v := 0) B.1 B.2.1 dX10_goPlain_213 (by decide) ?_
                  refine io_call_v Z (io_runV (ci := 10) (k := 111) [.int 0, .int 0] [] B Z (io_c_X10_gives l D ca ad A _ 0 0 _ hw) io_k_10_179 (io_hR (by decide) (by decide)) rfl (by decide) (io_e_111 _) rfl hl.1 (Nat.le_of_ble_eq_true rfl) dX10_goPlain_214 ⟨Nat.le_refl _, Nat.le_refl _⟩) (fun s14 H locs hw Z => ?_)
                  exact io_ret_v B Z hr hlk hw dX10_goPlain_217
                · have hw := hw.2 k12
                  refine lv_iconst (v := 1) B.1 B.2.1 dX10_goPlain_209 (by decide) ?_
                  refine lv_goto (tgt := 214) B.1 B.2.1 dX10_goPlain_210 (by decide) ?_
                  refine io_call_v Z (io_runV (ci := 10) (k := 111) [.int 0, .int 1] [] B Z (io_c_X10_gives l D ca ad A _ 0 1 _ hw) io_k_10_179 (io_hR (by decide) (by decide)) rfl (by decide) (io_e_111 _) rfl hl.1 (Nat.le_of_ble_eq_true rfl) dX10_goPlain_214 ⟨Nat.le_refl _, Nat.le_refl _⟩) (fun s16 H locs hw Z => ?_)
                  exact io_ret_v B Z hr hlk hw dX10_goPlain_217
              · have hw := hw.1 k11
                refine lv_aload_n B.1 B.2.1 dX10_goPlain_182 rfl (lv_at hl 0 rfl) ?_
                refine io_g_10_41 B Z dX10_goPlain_183 ?_
                refine lv_iload_n B.1 B.2.1 dX10_goPlain_186 rfl (lv_at hl 1 rfl) ?_
                refine io_iald B Z 142 (by decide) io_e_142 hw.1 dX10_goPlain_187 ?_
                have hw := hw.2
                refine lv_aload_n B.1 B.2.1 dX10_goPlain_188 rfl (lv_at hl 0 rfl) ?_
                refine io_g_10_47 B Z dX10_goPlain_189 ?_
                refine lv_iadd B.1 B.2.1 dX10_goPlain_192 ?_
                refine lv_goto (tgt := 214) B.1 B.2.1 dX10_goPlain_193 (by decide) ?_
                refine io_call_v Z (io_runV (ci := 10) (k := 111) [.int 0, .int ((s7 142 (p1).toNatClampNeg) + (s7 111 47))] [] B Z (io_c_X10_gives l D ca ad A _ 0 ((s7 142 (p1).toNatClampNeg) + (s7 111 47)) _ hw) io_k_10_179 (io_hR (by decide) (by decide)) rfl (by decide) (io_e_111 _) rfl hl.1 (Nat.le_of_ble_eq_true rfl) dX10_goPlain_214 ⟨Nat.le_refl _, Nat.le_refl _⟩) (fun s18 H locs hw Z => ?_)
                exact io_ret_v B Z hr hlk hw dX10_goPlain_217
            · have hw := hw.1 k10
              refine lv_aload_n B.1 B.2.1 dX10_goPlain_151 rfl (lv_at hl 0 rfl) ?_
              refine io_g_10_41 B Z dX10_goPlain_152 ?_
              refine lv_iload_n B.1 B.2.1 dX10_goPlain_155 rfl (lv_at hl 1 rfl) ?_
              refine lv_aload_n B.1 B.2.1 dX10_goPlain_156 rfl (lv_at hl 0 rfl) ?_
              refine io_g_10_47 B Z dX10_goPlain_157 ?_
              refine io_iast B Z 142 (by decide) io_e_142 hw.1 dX10_goPlain_160 (fun s19 H locs e20 Z => ?_)
              have hw := hw.2 s19 e20
              refine lv_aload_n B.1 B.2.1 dX10_goPlain_161 rfl (lv_at hl 0 rfl) ?_
              refine lv_aload_n B.1 B.2.1 dX10_goPlain_162 rfl (lv_at hl 0 rfl) ?_
              refine io_g_10_12 B Z dX10_goPlain_163 ?_
              refine lv_iload_n B.1 B.2.1 dX10_goPlain_166 rfl (lv_at hl 2 rfl) ?_
              refine io_iald B Z 120 (by decide) io_e_120 hw.1 dX10_goPlain_167 ?_
              have hw := hw.2
              refine io_call_v Z (io_runV (ci := 10) (k := 111) [.int (s19 120 (p2).toNatClampNeg)] [] B Z (io_c_X10_begin l D ca ad A _ (s19 120 (p2).toNatClampNeg) _ hw) io_k_10_209 (io_hR (by decide) (by decide)) rfl (by decide) (io_e_111 _) rfl hl.1 (Nat.le_of_ble_eq_true rfl) dX10_goPlain_168 ⟨Nat.le_refl _, Nat.le_refl _⟩) (fun s22 H locs hw Z => ?_)
              refine lv_goto (tgt := 217) B.1 B.2.1 dX10_goPlain_171 (by decide) ?_
              exact io_ret_v B Z hr hlk hw dX10_goPlain_217
        · have hw := hw.1 k5
          refine lv_aload_n B.1 B.2.1 dX10_goPlain_125 rfl (lv_at hl 0 rfl) ?_
          refine lv_iload_n B.1 B.2.1 dX10_goPlain_126 rfl (lv_at hl 1 rfl) ?_
          refine lv_iload_n B.1 B.2.1 dX10_goPlain_127 rfl (lv_at hl 2 rfl) ?_
          refine lv_iload B.1 B.2.1 dX10_goPlain_128 (lv_at hl 4 rfl) ?_
          refine io_call_v Z (io_runV (ci := 10) (k := 111) [.int p1, .int p2, .int p4] [] B Z (io_c_X10_goTimes l D ca ad A _ p1 p2 p4 _ hw) io_k_10_239 (io_hR (by decide) (by decide)) rfl (by decide) (io_e_111 _) rfl hl.1 (Nat.le_of_ble_eq_true rfl) dX10_goPlain_130 ⟨Nat.le_refl _, Nat.le_refl _⟩) (fun s24 H locs hw Z => ?_)
          refine lv_goto (tgt := 217) B.1 B.2.1 dX10_goPlain_133 (by decide) ?_
          exact io_ret_v B Z hr hlk hw dX10_goPlain_217
      · have hw := hw.1 k4
        refine lv_iload B.1 B.2.1 dX10_goPlain_62 (lv_at hl 4 rfl) ?_
        refine lv_iconst (v := 2) B.1 B.2.1 dX10_goPlain_64 (by decide) ?_
        refine lv_icmp_ne (tgt := 81) B.1 B.2.1 dX10_goPlain_65 (by decide) (fun k25 => ?_) (fun k25 => ?_)
        · have hw := hw.2 k25
          refine lv_aload_n B.1 B.2.1 dX10_goPlain_81 rfl (lv_at hl 0 rfl) ?_
          refine lv_iload_n B.1 B.2.1 dX10_goPlain_82 rfl (lv_at hl 2 rfl) ?_
          refine lv_iconst (v := 0) B.1 B.2.1 dX10_goPlain_83 (by decide) ?_
          refine io_call_i Z (io_runV (ci := 10) (k := 111) [.int p2, .int 0] [] B Z (io_c_X10_isSort l D ca ad A _ p2 0 _ hw) io_k_10_235 (io_hR (by decide) (by decide)) rfl (by decide) (io_e_111 _) rfl hl.1 (Nat.le_of_ble_eq_true rfl) dX10_goPlain_84 ⟨Nat.le_refl _, Nat.le_refl _⟩) (fun r26 s27 H locs hw Z => ?_)
          obtain ⟨b28, hw⟩ := hw
          refine lv_if_eq (tgt := 217) B.1 B.2.1 dX10_goPlain_87 (by decide) (fun k29 => ?_) (fun k29 => ?_)
          · have hw := hw.1 k29
            exact io_ret_v B Z hr hlk hw dX10_goPlain_217
          · have hw := hw.2 k29
            refine lv_aload_n B.1 B.2.1 dX10_goPlain_90 rfl (lv_at hl 0 rfl) ?_
            refine lv_aload_n B.1 B.2.1 dX10_goPlain_91 rfl (lv_at hl 0 rfl) ?_
            refine io_g_10_47 B Z dX10_goPlain_92 ?_
            refine lv_if_eq (tgt := 107) B.1 B.2.1 dX10_goPlain_95 (by decide) (fun k30 => ?_) (fun k30 => ?_)
            · have hw := hw.1 k30
              refine lv_aload_n B.1 B.2.1 dX10_goPlain_107 rfl (lv_at hl 0 rfl) ?_
              refine io_g_10_13 B Z dX10_goPlain_108 ?_
              refine lv_iload_n B.1 B.2.1 dX10_goPlain_111 rfl (lv_at hl 2 rfl) ?_
              refine io_iald B Z 121 (by decide) io_e_121 hw.1 dX10_goPlain_112 ?_
              have hw := hw.2
              refine io_call_v Z (io_runV (ci := 10) (k := 111) [.int (s27 121 (p2).toNatClampNeg)] [] B Z (io_c_X10_begin l D ca ad A _ (s27 121 (p2).toNatClampNeg) _ hw) io_k_10_209 (io_hR (by decide) (by decide)) rfl (by decide) (io_e_111 _) rfl hl.1 (Nat.le_of_ble_eq_true rfl) dX10_goPlain_113 ⟨Nat.le_refl _, Nat.le_refl _⟩) (fun s32 H locs hw Z => ?_)
              refine lv_goto (tgt := 217) B.1 B.2.1 dX10_goPlain_116 (by decide) ?_
              exact io_ret_v B Z hr hlk hw dX10_goPlain_217
            · have hw := hw.2 k30
              refine lv_aload_n B.1 B.2.1 dX10_goPlain_98 rfl (lv_at hl 0 rfl) ?_
              refine io_g_10_12 B Z dX10_goPlain_99 ?_
              refine lv_iload_n B.1 B.2.1 dX10_goPlain_102 rfl (lv_at hl 2 rfl) ?_
              refine io_iald B Z 120 (by decide) io_e_120 hw.1 dX10_goPlain_103 ?_
              have hw := hw.2
              refine lv_goto (tgt := 113) B.1 B.2.1 dX10_goPlain_104 (by decide) ?_
              refine io_call_v Z (io_runV (ci := 10) (k := 111) [.int (s27 120 (p2).toNatClampNeg)] [] B Z (io_c_X10_begin l D ca ad A _ (s27 120 (p2).toNatClampNeg) _ hw) io_k_10_209 (io_hR (by decide) (by decide)) rfl (by decide) (io_e_111 _) rfl hl.1 (Nat.le_of_ble_eq_true rfl) dX10_goPlain_113 ⟨Nat.le_refl _, Nat.le_refl _⟩) (fun s34 H locs hw Z => ?_)
              refine lv_goto (tgt := 217) B.1 B.2.1 dX10_goPlain_116 (by decide) ?_
              exact io_ret_v B Z hr hlk hw dX10_goPlain_217
        · have hw := hw.1 k25
          refine lv_aload_n B.1 B.2.1 dX10_goPlain_68 rfl (lv_at hl 0 rfl) ?_
          refine lv_dup B.1 B.2.1 dX10_goPlain_69 rfl ?_
          refine io_g_10_38 B Z dX10_goPlain_70 ?_
          refine lv_iconst (v := 1) B.1 B.2.1 dX10_goPlain_73 (by decide) ?_
          refine lv_isub B.1 B.2.1 dX10_goPlain_74 ?_
          refine io_p_10_38 B Z dX10_goPlain_75 (fun s35 H locs e36 Z => ?_)
          have hw := hw s35 e36
          refine lv_goto (tgt := 217) B.1 B.2.1 dX10_goPlain_78 (by decide) ?_
          exact io_ret_v B Z hr hlk hw dX10_goPlain_217
    · have hw := hw.1 k3
      refine lv_iload B.1 B.2.1 dX10_goPlain_24 (lv_at hl 4 rfl) ?_
      refine lv_iconst (v := 1) B.1 B.2.1 dX10_goPlain_26 (by decide) ?_
      refine lv_icmp_ne (tgt := 43) B.1 B.2.1 dX10_goPlain_27 (by decide) (fun k37 => ?_) (fun k37 => ?_)
      · have hw := hw.2 k37
        refine lv_aload_n B.1 B.2.1 dX10_goPlain_43 rfl (lv_at hl 0 rfl) ?_
        refine lv_dup B.1 B.2.1 dX10_goPlain_44 rfl ?_
        refine io_g_10_38 B Z dX10_goPlain_45 ?_
        refine lv_iconst (v := 1) B.1 B.2.1 dX10_goPlain_48 (by decide) ?_
        refine lv_isub B.1 B.2.1 dX10_goPlain_49 ?_
        refine io_p_10_38 B Z dX10_goPlain_50 (fun s38 H locs e39 Z => ?_)
        have hw := hw s38 e39
        refine lv_goto (tgt := 217) B.1 B.2.1 dX10_goPlain_53 (by decide) ?_
        exact io_ret_v B Z hr hlk hw dX10_goPlain_217
      · have hw := hw.1 k37
        refine lv_aload_n B.1 B.2.1 dX10_goPlain_30 rfl (lv_at hl 0 rfl) ?_
        refine lv_aload_n B.1 B.2.1 dX10_goPlain_31 rfl (lv_at hl 0 rfl) ?_
        refine io_g_10_12 B Z dX10_goPlain_32 ?_
        refine lv_iload_n B.1 B.2.1 dX10_goPlain_35 rfl (lv_at hl 2 rfl) ?_
        refine io_iald B Z 120 (by decide) io_e_120 hw.1 dX10_goPlain_36 ?_
        have hw := hw.2
        refine io_call_v Z (io_runV (ci := 10) (k := 111) [.int (σ 120 (p2).toNatClampNeg)] [] B Z (io_c_X10_begin l D ca ad A _ (σ 120 (p2).toNatClampNeg) _ hw) io_k_10_209 (io_hR (by decide) (by decide)) rfl (by decide) (io_e_111 _) rfl hl.1 (Nat.le_of_ble_eq_true rfl) dX10_goPlain_37 ⟨Nat.le_refl _, Nat.le_refl _⟩) (fun s41 H locs hw Z => ?_)
        refine lv_goto (tgt := 217) B.1 B.2.1 dX10_goPlain_40 (by decide) ?_
        exact io_ret_v B Z hr hlk hw dX10_goPlain_217
  · have hw := hw.1 k2
    refine lv_aload_n B.1 B.2.1 dX10_goPlain_5 rfl (lv_at hl 0 rfl) ?_
    refine lv_aload_n B.1 B.2.1 dX10_goPlain_6 rfl (lv_at hl 0 rfl) ?_
    refine io_g_10_11 B Z dX10_goPlain_7 ?_
    refine lv_iload_n B.1 B.2.1 dX10_goPlain_10 rfl (lv_at hl 2 rfl) ?_
    refine io_iald B Z 119 (by decide) io_e_119 hw.1 dX10_goPlain_11 ?_
    have hw := hw.2
    refine io_call_v Z (io_runV (ci := 10) (k := 111) [.int (σ 119 (p2).toNatClampNeg)] [] B Z (io_c_X10_begin l D ca ad A _ (σ 119 (p2).toNatClampNeg) _ hw) io_k_10_209 (io_hR (by decide) (by decide)) rfl (by decide) (io_e_111 _) rfl hl.1 (Nat.le_of_ble_eq_true rfl) dX10_goPlain_12 ⟨Nat.le_refl _, Nat.le_refl _⟩) (fun s43 H locs hw Z => ?_)
    refine lv_goto (tgt := 217) B.1 B.2.1 dX10_goPlain_15 (by decide) ?_
    exact io_ret_v B Z hr hlk hw dX10_goPlain_217
def wj_X10_goTexts_114 (σ : io_M) (x1 : Int32) (post : io_M → Prop) : Prop := (∀ s101, s101 = io_up σ 111 7 ((σ 111 7) + 1) → (wp_X10_note s101 x1 (fun s104 => (wp_X10_gives s104 0 (s104 111 7) (fun s106 => post s106)))))
def wp_X10_goTexts (σ : io_M) (p1 : Int32) (p2 : Int32) (p3 : Int32) (post : io_M → Prop) : Prop := ((p2 = 18 → (((σ 111 5) = (σ 111 4) → (wp_X10_fails σ p1 3 (fun s21 => post s21))) ∧ (¬ ((σ 111 5) = (σ 111 4)) → (∀ s14, s14 = io_up σ 111 5 ((σ 111 5) + 1) → (wp_X10_note s14 p1 (fun s17 => (vp_in ((s17 111 5) - 1) 100 ∧ (wp_X10_gives s17 0 ((s17 116 (((s17 111 5) - 1)).toNatClampNeg) &&& 255) (fun s19 => post s19))))))))) ∧ (¬ (p2 = 18) → ((p3 = 0 → (vp_in p1 60 ∧ (wp_X10_begin σ (σ 119 (p1).toNatClampNeg) (fun s12 => post s12)))) ∧ (¬ (p3 = 0) → (wp_X10_isSort σ p1 0 (fun r4 s5 => ((r4 = 0 → post s5) ∧ (¬ (r4 = 0) → ((200 ≤ (s5 111 7) → wj_X10_goTexts_114 s5 p1 post) ∧ (¬ (200 ≤ (s5 111 7)) → (vp_in (s5 111 7) 200 ∧ ∀ s9, s9 = io_up s5 117 ((s5 111 7)).toNatClampNeg (((((s5 111 47)).toInt8.toInt32)).toInt8.toInt32) → wj_X10_goTexts_114 s9 p1 post)))))))))))
set_option maxHeartbeats 4000000 in
set_option maxRecDepth 100000 in
theorem io_c_X10_goTexts (l : Launch) (D : va_G) (ca : Nat → ClassId) (ad : Nat → Nat) (A : Nat → Prop) (σ : io_M) (p1 : Int32) (p2 : Int32) (p3 : Int32) (post : io_M → Prop) (hw : wp_X10_goTexts σ p1 p2 p3 post) : Met l yX10_goTexts (.code yX10_goTexts cX10_goTexts 4 none :: io_tb) (io_rm 2) (va_Pc [.ref (ad 111), .int p1, .int p2, .int p3] (io_W D ca ad A σ)) (va_Qv post (io_W D ca ad A) A) 0 0 A := by
  refine Met.ofW (cc := cX10_goTexts) (maxL := 4) (ret := none) (by decide) rfl ?_
  intro p e s m args below meth c s₁ Bd hml hv
  obtain ⟨rfl, hW0⟩ := hv
  have Z := io_Z.start hW0
  have B : CallFix p m c cX10_goTexts 4 s _ io_tb RX10 := ⟨Bd.exec, Bd.bytes, hml, findClass_of_methodNamed Bd.named, fun w hw => atoms_spec (ws := (.code yX10_goTexts cX10_goTexts 4 none :: io_tb)) Bd.pre w (List.mem_cons_of_mem _ hw)⟩
  have hr := Bd.returns
  have hlk := Bd.notSynchronized
  have hl := lv_entry ([.ref (ad 111), .int p1, .int p2, .int p3]) (n := 4) (Nat.le_of_ble_eq_true rfl)
  rw [lg_entry_eq]
  generalize (lg_sl ([.ref (ad 111), .int p1, .int p2, .int p3]) ++ List.replicate (4 - (lg_sl ([.ref (ad 111), .int p1, .int p2, .int p3])).length) Slot.unset).toArray = ls at hl ⊢
  have hl : lv_has ls 4 [(0, .ref (ad 111)), (1, .int p1), (2, .int p2), (3, .int p3)] := hl
  show W p l e (io_rm 2) s m _ below meth c s.heap [] 0 0 _ (F0 m 0 ls [])
  have JN114 : ∀ (σ : io_M) (x1 : Int32), wj_X10_goTexts_114 σ x1 post → ∀ (H : Heap) (locs : List Loc), io_Z D ca ad A s H locs σ → ∀ ls : Array Slot, lv_has ls 4 [(0, .ref (ad 111)), (1, .int x1)] → W p l e (io_rm 2) s m ([.ref (ad 111), .int p1, .int p2, .int p3] : List Value).toArray below meth c H locs 0 0 (MQ below (va_Qv post (io_W D ca ad A) A) ([.ref (ad 111), .int p1, .int p2, .int p3] : List Value).toArray s 0 0 A) (F0 m 114 ls []) := by
    intro σ x1 hw H locs Z ls hl
    unfold wj_X10_goTexts_114 at hw
    refine lv_aload_n B.1 B.2.1 dX10_goTexts_114 rfl (lv_at hl 0 rfl) ?_
    refine lv_dup B.1 B.2.1 dX10_goTexts_115 rfl ?_
    refine io_g_10_7 B Z dX10_goTexts_116 ?_
    refine lv_iconst (v := 1) B.1 B.2.1 dX10_goTexts_119 (by decide) ?_
    refine lv_iadd B.1 B.2.1 dX10_goTexts_120 ?_
    refine io_p_10_7 B Z dX10_goTexts_121 (fun s101 H locs e102 Z => ?_)
    have hw := hw s101 e102
    refine lv_aload_n B.1 B.2.1 dX10_goTexts_124 rfl (lv_at hl 0 rfl) ?_
    refine lv_iload_n B.1 B.2.1 dX10_goTexts_125 rfl (lv_at hl 1 rfl) ?_
    refine io_call_v Z (io_runV (ci := 10) (k := 111) [.int x1] [] B Z (io_c_X10_note l D ca ad A _ x1 _ hw) io_k_10_175 (io_hR (by decide) (by decide)) rfl (by decide) (io_e_111 _) rfl hl.1 (Nat.le_of_ble_eq_true rfl) dX10_goTexts_126 ⟨Nat.le_refl _, Nat.le_refl _⟩) (fun s104 H locs hw Z => ?_)
    refine lv_aload_n B.1 B.2.1 dX10_goTexts_129 rfl (lv_at hl 0 rfl) ?_
    refine lv_iconst (v := 0) B.1 B.2.1 dX10_goTexts_130 (by decide) ?_
    refine lv_aload_n B.1 B.2.1 dX10_goTexts_131 rfl (lv_at hl 0 rfl) ?_
    refine io_g_10_7 B Z dX10_goTexts_132 ?_
    refine io_call_v Z (io_runV (ci := 10) (k := 111) [.int 0, .int (s104 111 7)] [] B Z (io_c_X10_gives l D ca ad A _ 0 (s104 111 7) _ hw) io_k_10_179 (io_hR (by decide) (by decide)) rfl (by decide) (io_e_111 _) rfl hl.1 (Nat.le_of_ble_eq_true rfl) dX10_goTexts_135 ⟨Nat.le_refl _, Nat.le_refl _⟩) (fun s106 H locs hw Z => ?_)
    exact io_ret_v B Z hr hlk hw dX10_goTexts_138
  unfold wp_X10_goTexts at hw
  refine lv_iload_n B.1 B.2.1 dX10_goTexts_0 rfl (lv_at hl 2 rfl) ?_
  refine lv_bipush (v := 18) B.1 B.2.1 dX10_goTexts_1 (by decide) ?_
  refine lv_icmp_ne (tgt := 64) B.1 B.2.1 dX10_goTexts_3 (by decide) (fun k2 => ?_) (fun k2 => ?_)
  · have hw := hw.2 k2
    refine lv_iload_n B.1 B.2.1 dX10_goTexts_64 rfl (lv_at hl 3 rfl) ?_
    refine lv_if_ne (tgt := 81) B.1 B.2.1 dX10_goTexts_65 (by decide) (fun k3 => ?_) (fun k3 => ?_)
    · have hw := hw.2 k3
      refine lv_aload_n B.1 B.2.1 dX10_goTexts_81 rfl (lv_at hl 0 rfl) ?_
      refine lv_iload_n B.1 B.2.1 dX10_goTexts_82 rfl (lv_at hl 1 rfl) ?_
      refine lv_iconst (v := 0) B.1 B.2.1 dX10_goTexts_83 (by decide) ?_
      refine io_call_i Z (io_runV (ci := 10) (k := 111) [.int p1, .int 0] [] B Z (io_c_X10_isSort l D ca ad A _ p1 0 _ hw) io_k_10_235 (io_hR (by decide) (by decide)) rfl (by decide) (io_e_111 _) rfl hl.1 (Nat.le_of_ble_eq_true rfl) dX10_goTexts_84 ⟨Nat.le_refl _, Nat.le_refl _⟩) (fun r4 s5 H locs hw Z => ?_)
      obtain ⟨b6, hw⟩ := hw
      refine lv_if_eq (tgt := 138) B.1 B.2.1 dX10_goTexts_87 (by decide) (fun k7 => ?_) (fun k7 => ?_)
      · have hw := hw.1 k7
        exact io_ret_v B Z hr hlk hw dX10_goTexts_138
      · have hw := hw.2 k7
        refine lv_aload_n B.1 B.2.1 dX10_goTexts_90 rfl (lv_at hl 0 rfl) ?_
        refine io_g_10_7 B Z dX10_goTexts_91 ?_
        refine lv_sipush (v := 200) B.1 B.2.1 dX10_goTexts_94 (by decide) ?_
        refine lv_icmp_ge (tgt := 114) B.1 B.2.1 dX10_goTexts_97 (by decide) (fun k8 => ?_) (fun k8 => ?_)
        · have hw := hw.1 k8
          exact JN114 _ p1 hw _ _ Z _ (lv_sub (l' := [(0, .ref (ad 111)), (1, .int p1)]) hl [0, 1] rfl)
        · have hw := hw.2 k8
          refine lv_aload_n B.1 B.2.1 dX10_goTexts_100 rfl (lv_at hl 0 rfl) ?_
          refine io_g_10_8 B Z dX10_goTexts_101 ?_
          refine lv_aload_n B.1 B.2.1 dX10_goTexts_104 rfl (lv_at hl 0 rfl) ?_
          refine io_g_10_7 B Z dX10_goTexts_105 ?_
          refine lv_aload_n B.1 B.2.1 dX10_goTexts_108 rfl (lv_at hl 0 rfl) ?_
          refine io_g_10_47 B Z dX10_goTexts_109 ?_
          refine lv_i2b (v := (((s5 111 47)).toInt8.toInt32)) B.1 B.2.1 dX10_goTexts_112 rfl ?_
          refine io_bast B Z 117 (by decide) io_e_117 hw.1 dX10_goTexts_113 (fun s9 H locs e10 Z => ?_)
          have hw := hw.2 s9 e10
          exact JN114 _ p1 hw _ _ Z _ (lv_sub (l' := [(0, .ref (ad 111)), (1, .int p1)]) hl [0, 1] rfl)
    · have hw := hw.1 k3
      refine lv_aload_n B.1 B.2.1 dX10_goTexts_68 rfl (lv_at hl 0 rfl) ?_
      refine lv_aload_n B.1 B.2.1 dX10_goTexts_69 rfl (lv_at hl 0 rfl) ?_
      refine io_g_10_11 B Z dX10_goTexts_70 ?_
      refine lv_iload_n B.1 B.2.1 dX10_goTexts_73 rfl (lv_at hl 1 rfl) ?_
      refine io_iald B Z 119 (by decide) io_e_119 hw.1 dX10_goTexts_74 ?_
      have hw := hw.2
      refine io_call_v Z (io_runV (ci := 10) (k := 111) [.int (σ 119 (p1).toNatClampNeg)] [] B Z (io_c_X10_begin l D ca ad A _ (σ 119 (p1).toNatClampNeg) _ hw) io_k_10_209 (io_hR (by decide) (by decide)) rfl (by decide) (io_e_111 _) rfl hl.1 (Nat.le_of_ble_eq_true rfl) dX10_goTexts_75 ⟨Nat.le_refl _, Nat.le_refl _⟩) (fun s12 H locs hw Z => ?_)
      refine lv_goto (tgt := 138) B.1 B.2.1 dX10_goTexts_78 (by decide) ?_
      exact io_ret_v B Z hr hlk hw dX10_goTexts_138
  · have hw := hw.1 k2
    refine lv_aload_n B.1 B.2.1 dX10_goTexts_6 rfl (lv_at hl 0 rfl) ?_
    refine io_g_10_5 B Z dX10_goTexts_7 ?_
    refine lv_aload_n B.1 B.2.1 dX10_goTexts_10 rfl (lv_at hl 0 rfl) ?_
    refine io_g_10_4 B Z dX10_goTexts_11 ?_
    refine lv_icmp_ne (tgt := 26) B.1 B.2.1 dX10_goTexts_14 (by decide) (fun k13 => ?_) (fun k13 => ?_)
    · have hw := hw.2 k13
      refine lv_aload_n B.1 B.2.1 dX10_goTexts_26 rfl (lv_at hl 0 rfl) ?_
      refine lv_dup B.1 B.2.1 dX10_goTexts_27 rfl ?_
      refine io_g_10_5 B Z dX10_goTexts_28 ?_
      refine lv_iconst (v := 1) B.1 B.2.1 dX10_goTexts_31 (by decide) ?_
      refine lv_iadd B.1 B.2.1 dX10_goTexts_32 ?_
      refine io_p_10_5 B Z dX10_goTexts_33 (fun s14 H locs e15 Z => ?_)
      have hw := hw s14 e15
      refine lv_aload_n B.1 B.2.1 dX10_goTexts_36 rfl (lv_at hl 0 rfl) ?_
      refine lv_iload_n B.1 B.2.1 dX10_goTexts_37 rfl (lv_at hl 1 rfl) ?_
      refine io_call_v Z (io_runV (ci := 10) (k := 111) [.int p1] [] B Z (io_c_X10_note l D ca ad A _ p1 _ hw) io_k_10_175 (io_hR (by decide) (by decide)) rfl (by decide) (io_e_111 _) rfl hl.1 (Nat.le_of_ble_eq_true rfl) dX10_goTexts_38 ⟨Nat.le_refl _, Nat.le_refl _⟩) (fun s17 H locs hw Z => ?_)
      refine lv_aload_n B.1 B.2.1 dX10_goTexts_41 rfl (lv_at hl 0 rfl) ?_
      refine lv_iconst (v := 0) B.1 B.2.1 dX10_goTexts_42 (by decide) ?_
      refine lv_aload_n B.1 B.2.1 dX10_goTexts_43 rfl (lv_at hl 0 rfl) ?_
      refine io_g_10_6 B Z dX10_goTexts_44 ?_
      refine lv_aload_n B.1 B.2.1 dX10_goTexts_47 rfl (lv_at hl 0 rfl) ?_
      refine io_g_10_5 B Z dX10_goTexts_48 ?_
      refine lv_iconst (v := 1) B.1 B.2.1 dX10_goTexts_51 (by decide) ?_
      refine lv_isub B.1 B.2.1 dX10_goTexts_52 ?_
      refine io_bald B Z 116 (by decide) io_e_116 hw.1 dX10_goTexts_53 ?_
      have hw := hw.2
      refine lv_sipush (v := 255) B.1 B.2.1 dX10_goTexts_54 (by decide) ?_
      refine lv_iand B.1 B.2.1 dX10_goTexts_57 ?_
      refine io_call_v Z (io_runV (ci := 10) (k := 111) [.int 0, .int ((s17 116 (((s17 111 5) - 1)).toNatClampNeg) &&& 255)] [] B Z (io_c_X10_gives l D ca ad A _ 0 ((s17 116 (((s17 111 5) - 1)).toNatClampNeg) &&& 255) _ hw) io_k_10_179 (io_hR (by decide) (by decide)) rfl (by decide) (io_e_111 _) rfl hl.1 (Nat.le_of_ble_eq_true rfl) dX10_goTexts_58 ⟨Nat.le_refl _, Nat.le_refl _⟩) (fun s19 H locs hw Z => ?_)
      refine lv_goto (tgt := 138) B.1 B.2.1 dX10_goTexts_61 (by decide) ?_
      exact io_ret_v B Z hr hlk hw dX10_goTexts_138
    · have hw := hw.1 k13
      refine lv_aload_n B.1 B.2.1 dX10_goTexts_17 rfl (lv_at hl 0 rfl) ?_
      refine lv_iload_n B.1 B.2.1 dX10_goTexts_18 rfl (lv_at hl 1 rfl) ?_
      refine lv_iconst (v := 3) B.1 B.2.1 dX10_goTexts_19 (by decide) ?_
      refine io_call_v Z (io_runV (ci := 10) (k := 111) [.int p1, .int 3] [] B Z (io_c_X10_fails l D ca ad A _ p1 3 _ hw) io_k_10_171 (io_hR (by decide) (by decide)) rfl (by decide) (io_e_111 _) rfl hl.1 (Nat.le_of_ble_eq_true rfl) dX10_goTexts_20 ⟨Nat.le_refl _, Nat.le_refl _⟩) (fun s21 H locs hw Z => ?_)
      refine lv_goto (tgt := 138) B.1 B.2.1 dX10_goTexts_23 (by decide) ?_
      exact io_ret_v B Z hr hlk hw dX10_goTexts_138
def wp_X10_go (σ : io_M) (p1 : Int32) (p2 : Int32) (post : io_M → Prop) : Prop := (vp_in p1 64 ∧ (vp_in p1 64 ∧ ∀ s2, s2 = io_up σ 141 (p1).toNatClampNeg (((σ 141 (p1).toNatClampNeg) + 1)) → (vp_in p2 60 ∧ (((s2 118 (p2).toNatClampNeg) = 0 → (vp_in p2 60 ∧ (wp_X10_gives s2 0 (s2 119 (p2).toNatClampNeg) (fun s39 => post s39)))) ∧ (¬ ((s2 118 (p2).toNatClampNeg) = 0) → (((s2 118 (p2).toNatClampNeg) = 1 → (vp_in p2 60 ∧ (vp_in (s2 119 (p2).toNatClampNeg) 6 ∧ (vp_in p2 60 ∧ (vp_in (s2 119 (p2).toNatClampNeg) 6 ∧ (wp_X10_gives s2 (s2 122 ((s2 119 (p2).toNatClampNeg)).toNatClampNeg) (s2 123 ((s2 119 (p2).toNatClampNeg)).toNatClampNeg) (fun s37 => post s37))))))) ∧ (¬ ((s2 118 (p2).toNatClampNeg) = 1) → (((s2 118 (p2).toNatClampNeg) = 2 → (((σ 141 (p1).toNatClampNeg) = 0 → (vp_in p2 60 ∧ (wp_X10_begin s2 (s2 120 (p2).toNatClampNeg) (fun s35 => post s35)))) ∧ (¬ ((σ 141 (p1).toNatClampNeg) = 0) → (vp_in p2 60 ∧ (vp_in (s2 119 (p2).toNatClampNeg) 6 ∧ ∀ s28, s28 = io_up s2 122 ((s2 119 (p2).toNatClampNeg)).toNatClampNeg ((s2 111 46)) → (vp_in p2 60 ∧ (vp_in (s28 119 (p2).toNatClampNeg) 6 ∧ ∀ s30, s30 = io_up s28 123 ((s28 119 (p2).toNatClampNeg)).toNatClampNeg ((s28 111 47)) → (∀ s32, s32 = io_up s30 111 38 ((s30 111 38) - 1) → post s32)))))))) ∧ (¬ ((s2 118 (p2).toNatClampNeg) = 2) → (((s2 118 (p2).toNatClampNeg) = 3 → (wp_X10_opens s2 p2 (fun s26 => post s26))) ∧ (¬ ((s2 118 (p2).toNatClampNeg) = 3) → ((14 < (s2 118 (p2).toNatClampNeg) → (((s2 118 (p2).toNatClampNeg) = 15 → (wp_X10_remove s2 p2 (fun s22 => post s22))) ∧ (¬ ((s2 118 (p2).toNatClampNeg) = 15) → (((s2 118 (p2).toNatClampNeg) = 16 → (wp_X10_rename s2 p2 (fun s20 => post s20))) ∧ (¬ ((s2 118 (p2).toNatClampNeg) = 16) → ((18 < (s2 118 (p2).toNatClampNeg) → ((23 < (s2 118 (p2).toNatClampNeg) → (wp_X10_goEnds s2 p1 p2 (s2 118 (p2).toNatClampNeg) (σ 141 (p1).toNatClampNeg) (fun s14 => post s14))) ∧ (¬ (23 < (s2 118 (p2).toNatClampNeg)) → (wp_X10_goPlain s2 p1 p2 (s2 118 (p2).toNatClampNeg) (σ 141 (p1).toNatClampNeg) (fun s16 => post s16))))) ∧ (¬ (18 < (s2 118 (p2).toNatClampNeg)) → (wp_X10_goTexts s2 p2 (s2 118 (p2).toNatClampNeg) (σ 141 (p1).toNatClampNeg) (fun s18 => post s18))))))))) ∧ (¬ (14 < (s2 118 (p2).toNatClampNeg)) → (wp_X10_goHandles s2 p1 p2 (s2 118 (p2).toNatClampNeg) (σ 141 (p1).toNatClampNeg) (fun s24 => post s24)))))))))))))))
set_option maxHeartbeats 4000000 in
set_option maxRecDepth 100000 in
theorem io_c_X10_go (l : Launch) (D : va_G) (ca : Nat → ClassId) (ad : Nat → Nat) (A : Nat → Prop) (σ : io_M) (p1 : Int32) (p2 : Int32) (post : io_M → Prop) (hw : wp_X10_go σ p1 p2 post) : Met l yX10_go (.code yX10_go cX10_go 5 none :: io_tb) (io_rm 5) (va_Pc [.ref (ad 111), .int p1, .int p2] (io_W D ca ad A σ)) (va_Qv post (io_W D ca ad A) A) 0 0 A := by
  refine Met.ofW (cc := cX10_go) (maxL := 5) (ret := none) (by decide) rfl ?_
  intro p e s m args below meth c s₁ Bd hml hv
  obtain ⟨rfl, hW0⟩ := hv
  have Z := io_Z.start hW0
  have B : CallFix p m c cX10_go 5 s _ io_tb RX10 := ⟨Bd.exec, Bd.bytes, hml, findClass_of_methodNamed Bd.named, fun w hw => atoms_spec (ws := (.code yX10_go cX10_go 5 none :: io_tb)) Bd.pre w (List.mem_cons_of_mem _ hw)⟩
  have hr := Bd.returns
  have hlk := Bd.notSynchronized
  have hl := lv_entry ([.ref (ad 111), .int p1, .int p2]) (n := 5) (Nat.le_of_ble_eq_true rfl)
  rw [lg_entry_eq]
  generalize (lg_sl ([.ref (ad 111), .int p1, .int p2]) ++ List.replicate (5 - (lg_sl ([.ref (ad 111), .int p1, .int p2])).length) Slot.unset).toArray = ls at hl ⊢
  have hl : lv_has ls 5 [(0, .ref (ad 111)), (1, .int p1), (2, .int p2)] := hl
  show W p l e (io_rm 5) s m _ below meth c s.heap [] 0 0 _ (F0 m 0 ls [])
  unfold wp_X10_go at hw
  refine lv_aload_n B.1 B.2.1 dX10_go_0 rfl (lv_at hl 0 rfl) ?_
  refine io_g_10_40 B Z dX10_go_1 ?_
  refine lv_iload_n B.1 B.2.1 dX10_go_4 rfl (lv_at hl 1 rfl) ?_
  refine io_iald B Z 141 (by decide) io_e_141 hw.1 dX10_go_5 ?_
  have hw := hw.2
  refine lv_istore_n (lv' := [(3, .int (σ 141 (p1).toNatClampNeg)), (0, .ref (ad 111)), (1, .int p1), (2, .int p2)]) B.1 B.2.1 dX10_go_6 rfl hl (by decide) rfl (fun ls hl => ?_)
  refine lv_aload_n B.1 B.2.1 dX10_go_7 rfl (lv_at hl 1 rfl) ?_
  refine io_g_10_40 B Z dX10_go_8 ?_
  refine lv_iload_n B.1 B.2.1 dX10_go_11 rfl (lv_at hl 2 rfl) ?_
  refine lv_iload_n B.1 B.2.1 dX10_go_12 rfl (lv_at hl 0 rfl) ?_
  refine lv_iconst (v := 1) B.1 B.2.1 dX10_go_13 (by decide) ?_
  refine lv_iadd B.1 B.2.1 dX10_go_14 ?_
  refine io_iast B Z 141 (by decide) io_e_141 hw.1 dX10_go_15 (fun s2 H locs e3 Z => ?_)
  have hw := hw.2 s2 e3
  refine lv_aload_n B.1 B.2.1 dX10_go_16 rfl (lv_at hl 1 rfl) ?_
  refine io_g_10_10 B Z dX10_go_17 ?_
  refine lv_iload_n B.1 B.2.1 dX10_go_20 rfl (lv_at hl 3 rfl) ?_
  refine io_iald B Z 118 (by decide) io_e_118 hw.1 dX10_go_21 ?_
  have hw := hw.2
  refine lv_istore (lv' := [(4, .int (s2 118 (p2).toNatClampNeg)), (3, .int (σ 141 (p1).toNatClampNeg)), (0, .ref (ad 111)), (1, .int p1), (2, .int p2)]) B.1 B.2.1 dX10_go_22 hl (by decide) rfl (fun ls hl => ?_)
  refine lv_iload B.1 B.2.1 dX10_go_24 (lv_at hl 0 rfl) ?_
  refine lv_if_ne (tgt := 43) B.1 B.2.1 dX10_go_26 (by decide) (fun k4 => ?_) (fun k4 => ?_)
  · have hw := hw.2 k4
    refine lv_iload B.1 B.2.1 dX10_go_43 (lv_at hl 0 rfl) ?_
    refine lv_iconst (v := 1) B.1 B.2.1 dX10_go_45 (by decide) ?_
    refine lv_icmp_ne (tgt := 78) B.1 B.2.1 dX10_go_46 (by decide) (fun k5 => ?_) (fun k5 => ?_)
    · have hw := hw.2 k5
      refine lv_iload B.1 B.2.1 dX10_go_78 (lv_at hl 0 rfl) ?_
      refine lv_iconst (v := 2) B.1 B.2.1 dX10_go_80 (by decide) ?_
      refine lv_icmp_ne (tgt := 144) B.1 B.2.1 dX10_go_81 (by decide) (fun k6 => ?_) (fun k6 => ?_)
      · have hw := hw.2 k6
        refine lv_iload B.1 B.2.1 dX10_go_144 (lv_at hl 0 rfl) ?_
        refine lv_iconst (v := 3) B.1 B.2.1 dX10_go_146 (by decide) ?_
        refine lv_icmp_ne (tgt := 158) B.1 B.2.1 dX10_go_147 (by decide) (fun k7 => ?_) (fun k7 => ?_)
        · have hw := hw.2 k7
          refine lv_iload B.1 B.2.1 dX10_go_158 (lv_at hl 0 rfl) ?_
          refine lv_bipush (v := 14) B.1 B.2.1 dX10_go_160 (by decide) ?_
          refine lv_icmp_gt (tgt := 177) B.1 B.2.1 dX10_go_162 (by decide) (fun k8 => ?_) (fun k8 => ?_)
          · have hw := hw.1 k8
            refine lv_iload B.1 B.2.1 dX10_go_177 (lv_at hl 0 rfl) ?_
            refine lv_bipush (v := 15) B.1 B.2.1 dX10_go_179 (by decide) ?_
            refine lv_icmp_ne (tgt := 192) B.1 B.2.1 dX10_go_181 (by decide) (fun k9 => ?_) (fun k9 => ?_)
            · have hw := hw.2 k9
              refine lv_iload B.1 B.2.1 dX10_go_192 (lv_at hl 0 rfl) ?_
              refine lv_bipush (v := 16) B.1 B.2.1 dX10_go_194 (by decide) ?_
              refine lv_icmp_ne (tgt := 207) B.1 B.2.1 dX10_go_196 (by decide) (fun k10 => ?_) (fun k10 => ?_)
              · have hw := hw.2 k10
                refine lv_iload B.1 B.2.1 dX10_go_207 (lv_at hl 0 rfl) ?_
                refine lv_bipush (v := 18) B.1 B.2.1 dX10_go_209 (by decide) ?_
                refine lv_icmp_gt (tgt := 225) B.1 B.2.1 dX10_go_211 (by decide) (fun k11 => ?_) (fun k11 => ?_)
                · have hw := hw.1 k11
                  refine lv_iload B.1 B.2.1 dX10_go_225 (lv_at hl 0 rfl) ?_
                  refine lv_bipush (v := 23) B.1 B.2.1 dX10_go_227 (by decide) ?_
                  refine lv_icmp_gt (tgt := 244) B.1 B.2.1 dX10_go_229 (by decide) (fun k12 => ?_) (fun k12 => ?_)
                  · have hw := hw.1 k12
                    refine lv_aload_n B.1 B.2.1 dX10_go_244 rfl (lv_at hl 2 rfl) ?_
                    refine lv_iload_n B.1 B.2.1 dX10_go_245 rfl (lv_at hl 3 rfl) ?_
                    refine lv_iload_n B.1 B.2.1 dX10_go_246 rfl (lv_at hl 4 rfl) ?_
                    refine lv_iload B.1 B.2.1 dX10_go_247 (lv_at hl 0 rfl) ?_
                    refine lv_iload_n B.1 B.2.1 dX10_go_249 rfl (lv_at hl 1 rfl) ?_
                    refine io_call_v Z (io_runV (ci := 10) (k := 111) [.int p1, .int p2, .int (s2 118 (p2).toNatClampNeg), .int (σ 141 (p1).toNatClampNeg)] [] B Z (io_c_X10_goEnds l D ca ad A _ p1 p2 (s2 118 (p2).toNatClampNeg) (σ 141 (p1).toNatClampNeg) _ hw) io_k_10_232 (io_hR (by decide) (by decide)) rfl (by decide) (io_e_111 _) rfl hl.1 (Nat.le_of_ble_eq_true rfl) dX10_go_250 ⟨Nat.le_refl _, Nat.le_refl _⟩) (fun s14 H locs hw Z => ?_)
                    exact io_ret_v B Z hr hlk hw dX10_go_253
                  · have hw := hw.2 k12
                    refine lv_aload_n B.1 B.2.1 dX10_go_232 rfl (lv_at hl 2 rfl) ?_
                    refine lv_iload_n B.1 B.2.1 dX10_go_233 rfl (lv_at hl 3 rfl) ?_
                    refine lv_iload_n B.1 B.2.1 dX10_go_234 rfl (lv_at hl 4 rfl) ?_
                    refine lv_iload B.1 B.2.1 dX10_go_235 (lv_at hl 0 rfl) ?_
                    refine lv_iload_n B.1 B.2.1 dX10_go_237 rfl (lv_at hl 1 rfl) ?_
                    refine io_call_v Z (io_runV (ci := 10) (k := 111) [.int p1, .int p2, .int (s2 118 (p2).toNatClampNeg), .int (σ 141 (p1).toNatClampNeg)] [] B Z (io_c_X10_goPlain l D ca ad A _ p1 p2 (s2 118 (p2).toNatClampNeg) (σ 141 (p1).toNatClampNeg) _ hw) io_k_10_229 (io_hR (by decide) (by decide)) rfl (by decide) (io_e_111 _) rfl hl.1 (Nat.le_of_ble_eq_true rfl) dX10_go_238 ⟨Nat.le_refl _, Nat.le_refl _⟩) (fun s16 H locs hw Z => ?_)
                    refine lv_goto (tgt := 253) B.1 B.2.1 dX10_go_241 (by decide) ?_
                    exact io_ret_v B Z hr hlk hw dX10_go_253
                · have hw := hw.2 k11
                  refine lv_aload_n B.1 B.2.1 dX10_go_214 rfl (lv_at hl 2 rfl) ?_
                  refine lv_iload_n B.1 B.2.1 dX10_go_215 rfl (lv_at hl 4 rfl) ?_
                  refine lv_iload B.1 B.2.1 dX10_go_216 (lv_at hl 0 rfl) ?_
                  refine lv_iload_n B.1 B.2.1 dX10_go_218 rfl (lv_at hl 1 rfl) ?_
                  refine io_call_v Z (io_runV (ci := 10) (k := 111) [.int p2, .int (s2 118 (p2).toNatClampNeg), .int (σ 141 (p1).toNatClampNeg)] [] B Z (io_c_X10_goTexts l D ca ad A _ p2 (s2 118 (p2).toNatClampNeg) (σ 141 (p1).toNatClampNeg) _ hw) io_k_10_225 (io_hR (by decide) (by decide)) rfl (by decide) (io_e_111 _) rfl hl.1 (Nat.le_of_ble_eq_true rfl) dX10_go_219 ⟨Nat.le_refl _, Nat.le_refl _⟩) (fun s18 H locs hw Z => ?_)
                  refine lv_goto (tgt := 253) B.1 B.2.1 dX10_go_222 (by decide) ?_
                  exact io_ret_v B Z hr hlk hw dX10_go_253
              · have hw := hw.1 k10
                refine lv_aload_n B.1 B.2.1 dX10_go_199 rfl (lv_at hl 2 rfl) ?_
                refine lv_iload_n B.1 B.2.1 dX10_go_200 rfl (lv_at hl 4 rfl) ?_
                refine io_call_v Z (io_runV (ci := 10) (k := 111) [.int p2] [] B Z (io_c_X10_rename l D ca ad A _ p2 _ hw) io_k_10_222 (io_hR (by decide) (by decide)) rfl (by decide) (io_e_111 _) rfl hl.1 (Nat.le_of_ble_eq_true rfl) dX10_go_201 ⟨Nat.le_refl _, Nat.le_refl _⟩) (fun s20 H locs hw Z => ?_)
                refine lv_goto (tgt := 253) B.1 B.2.1 dX10_go_204 (by decide) ?_
                exact io_ret_v B Z hr hlk hw dX10_go_253
            · have hw := hw.1 k9
              refine lv_aload_n B.1 B.2.1 dX10_go_184 rfl (lv_at hl 2 rfl) ?_
              refine lv_iload_n B.1 B.2.1 dX10_go_185 rfl (lv_at hl 4 rfl) ?_
              refine io_call_v Z (io_runV (ci := 10) (k := 111) [.int p2] [] B Z (io_c_X10_remove l D ca ad A _ p2 _ hw) io_k_10_219 (io_hR (by decide) (by decide)) rfl (by decide) (io_e_111 _) rfl hl.1 (Nat.le_of_ble_eq_true rfl) dX10_go_186 ⟨Nat.le_refl _, Nat.le_refl _⟩) (fun s22 H locs hw Z => ?_)
              refine lv_goto (tgt := 253) B.1 B.2.1 dX10_go_189 (by decide) ?_
              exact io_ret_v B Z hr hlk hw dX10_go_253
          · have hw := hw.2 k8
            refine lv_aload_n B.1 B.2.1 dX10_go_165 rfl (lv_at hl 2 rfl) ?_
            refine lv_iload_n B.1 B.2.1 dX10_go_166 rfl (lv_at hl 3 rfl) ?_
            refine lv_iload_n B.1 B.2.1 dX10_go_167 rfl (lv_at hl 4 rfl) ?_
            refine lv_iload B.1 B.2.1 dX10_go_168 (lv_at hl 0 rfl) ?_
            refine lv_iload_n B.1 B.2.1 dX10_go_170 rfl (lv_at hl 1 rfl) ?_
            refine io_call_v Z (io_runV (ci := 10) (k := 111) [.int p1, .int p2, .int (s2 118 (p2).toNatClampNeg), .int (σ 141 (p1).toNatClampNeg)] [] B Z (io_c_X10_goHandles l D ca ad A _ p1 p2 (s2 118 (p2).toNatClampNeg) (σ 141 (p1).toNatClampNeg) _ hw) io_k_10_215 (io_hR (by decide) (by decide)) rfl (by decide) (io_e_111 _) rfl hl.1 (Nat.le_of_ble_eq_true rfl) dX10_go_171 ⟨Nat.le_refl _, Nat.le_refl _⟩) (fun s24 H locs hw Z => ?_)
            refine lv_goto (tgt := 253) B.1 B.2.1 dX10_go_174 (by decide) ?_
            exact io_ret_v B Z hr hlk hw dX10_go_253
        · have hw := hw.1 k7
          refine lv_aload_n B.1 B.2.1 dX10_go_150 rfl (lv_at hl 2 rfl) ?_
          refine lv_iload_n B.1 B.2.1 dX10_go_151 rfl (lv_at hl 4 rfl) ?_
          refine io_call_v Z (io_runV (ci := 10) (k := 111) [.int p2] [] B Z (io_c_X10_opens l D ca ad A _ p2 _ hw) io_k_10_212 (io_hR (by decide) (by decide)) rfl (by decide) (io_e_111 _) rfl hl.1 (Nat.le_of_ble_eq_true rfl) dX10_go_152 ⟨Nat.le_refl _, Nat.le_refl _⟩) (fun s26 H locs hw Z => ?_)
          refine lv_goto (tgt := 253) B.1 B.2.1 dX10_go_155 (by decide) ?_
          exact io_ret_v B Z hr hlk hw dX10_go_253
      · have hw := hw.1 k6
        refine lv_iload_n B.1 B.2.1 dX10_go_84 rfl (lv_at hl 1 rfl) ?_
        refine lv_if_ne (tgt := 101) B.1 B.2.1 dX10_go_85 (by decide) (fun k27 => ?_) (fun k27 => ?_)
        · have hw := hw.2 k27
          refine lv_aload_n B.1 B.2.1 dX10_go_101 rfl (lv_at hl 2 rfl) ?_
          refine io_g_10_14 B Z dX10_go_102 ?_
          refine lv_aload_n B.1 B.2.1 dX10_go_105 rfl (lv_at hl 2 rfl) ?_
          refine io_g_10_11 B Z dX10_go_106 ?_
          refine lv_iload_n B.1 B.2.1 dX10_go_109 rfl (lv_at hl 4 rfl) ?_
          refine io_iald B Z 119 (by decide) io_e_119 hw.1 dX10_go_110 ?_
          have hw := hw.2
          refine lv_aload_n B.1 B.2.1 dX10_go_111 rfl (lv_at hl 2 rfl) ?_
          refine io_g_10_46 B Z dX10_go_112 ?_
          refine io_iast B Z 122 (by decide) io_e_122 hw.1 dX10_go_115 (fun s28 H locs e29 Z => ?_)
          have hw := hw.2 s28 e29
          refine lv_aload_n B.1 B.2.1 dX10_go_116 rfl (lv_at hl 2 rfl) ?_
          refine io_g_10_15 B Z dX10_go_117 ?_
          refine lv_aload_n B.1 B.2.1 dX10_go_120 rfl (lv_at hl 2 rfl) ?_
          refine io_g_10_11 B Z dX10_go_121 ?_
          refine lv_iload_n B.1 B.2.1 dX10_go_124 rfl (lv_at hl 4 rfl) ?_
          refine io_iald B Z 119 (by decide) io_e_119 hw.1 dX10_go_125 ?_
          have hw := hw.2
          refine lv_aload_n B.1 B.2.1 dX10_go_126 rfl (lv_at hl 2 rfl) ?_
          refine io_g_10_47 B Z dX10_go_127 ?_
          refine io_iast B Z 123 (by decide) io_e_123 hw.1 dX10_go_130 (fun s30 H locs e31 Z => ?_)
          have hw := hw.2 s30 e31
          refine lv_aload_n B.1 B.2.1 dX10_go_131 rfl (lv_at hl 2 rfl) ?_
          refine lv_dup B.1 B.2.1 dX10_go_132 rfl ?_
          refine io_g_10_38 B Z dX10_go_133 ?_
          refine lv_iconst (v := 1) B.1 B.2.1 dX10_go_136 (by decide) ?_
          refine lv_isub B.1 B.2.1 dX10_go_137 ?_
          refine io_p_10_38 B Z dX10_go_138 (fun s32 H locs e33 Z => ?_)
          have hw := hw s32 e33
          refine lv_goto (tgt := 253) B.1 B.2.1 dX10_go_141 (by decide) ?_
          exact io_ret_v B Z hr hlk hw dX10_go_253
        · have hw := hw.1 k27
          refine lv_aload_n B.1 B.2.1 dX10_go_88 rfl (lv_at hl 2 rfl) ?_
          refine lv_aload_n B.1 B.2.1 dX10_go_89 rfl (lv_at hl 2 rfl) ?_
          refine io_g_10_12 B Z dX10_go_90 ?_
          refine lv_iload_n B.1 B.2.1 dX10_go_93 rfl (lv_at hl 4 rfl) ?_
          refine io_iald B Z 120 (by decide) io_e_120 hw.1 dX10_go_94 ?_
          have hw := hw.2
          refine io_call_v Z (io_runV (ci := 10) (k := 111) [.int (s2 120 (p2).toNatClampNeg)] [] B Z (io_c_X10_begin l D ca ad A _ (s2 120 (p2).toNatClampNeg) _ hw) io_k_10_209 (io_hR (by decide) (by decide)) rfl (by decide) (io_e_111 _) rfl hl.1 (Nat.le_of_ble_eq_true rfl) dX10_go_95 ⟨Nat.le_refl _, Nat.le_refl _⟩) (fun s35 H locs hw Z => ?_)
          refine lv_goto (tgt := 253) B.1 B.2.1 dX10_go_98 (by decide) ?_
          exact io_ret_v B Z hr hlk hw dX10_go_253
    · have hw := hw.1 k5
      refine lv_aload_n B.1 B.2.1 dX10_go_49 rfl (lv_at hl 2 rfl) ?_
      refine lv_aload_n B.1 B.2.1 dX10_go_50 rfl (lv_at hl 2 rfl) ?_
      refine io_g_10_14 B Z dX10_go_51 ?_
      refine lv_aload_n B.1 B.2.1 dX10_go_54 rfl (lv_at hl 2 rfl) ?_
      refine io_g_10_11 B Z dX10_go_55 ?_
      refine lv_iload_n B.1 B.2.1 dX10_go_58 rfl (lv_at hl 4 rfl) ?_
      refine io_iald B Z 119 (by decide) io_e_119 hw.1 dX10_go_59 ?_
      have hw := hw.2
      refine io_iald B Z 122 (by decide) io_e_122 hw.1 dX10_go_60 ?_
      have hw := hw.2
      refine lv_aload_n B.1 B.2.1 dX10_go_61 rfl (lv_at hl 2 rfl) ?_
      refine io_g_10_15 B Z dX10_go_62 ?_
      refine lv_aload_n B.1 B.2.1 dX10_go_65 rfl (lv_at hl 2 rfl) ?_
      refine io_g_10_11 B Z dX10_go_66 ?_
      refine lv_iload_n B.1 B.2.1 dX10_go_69 rfl (lv_at hl 4 rfl) ?_
      refine io_iald B Z 119 (by decide) io_e_119 hw.1 dX10_go_70 ?_
      have hw := hw.2
      refine io_iald B Z 123 (by decide) io_e_123 hw.1 dX10_go_71 ?_
      have hw := hw.2
      refine io_call_v Z (io_runV (ci := 10) (k := 111) [.int (s2 122 ((s2 119 (p2).toNatClampNeg)).toNatClampNeg), .int (s2 123 ((s2 119 (p2).toNatClampNeg)).toNatClampNeg)] [] B Z (io_c_X10_gives l D ca ad A _ (s2 122 ((s2 119 (p2).toNatClampNeg)).toNatClampNeg) (s2 123 ((s2 119 (p2).toNatClampNeg)).toNatClampNeg) _ hw) io_k_10_179 (io_hR (by decide) (by decide)) rfl (by decide) (io_e_111 _) rfl hl.1 (Nat.le_of_ble_eq_true rfl) dX10_go_72 ⟨Nat.le_refl _, Nat.le_refl _⟩) (fun s37 H locs hw Z => ?_)
      refine lv_goto (tgt := 253) B.1 B.2.1 dX10_go_75 (by decide) ?_
      exact io_ret_v B Z hr hlk hw dX10_go_253
  · have hw := hw.1 k4
    refine lv_aload_n B.1 B.2.1 dX10_go_29 rfl (lv_at hl 2 rfl) ?_
    refine lv_iconst (v := 0) B.1 B.2.1 dX10_go_30 (by decide) ?_
    refine lv_aload_n B.1 B.2.1 dX10_go_31 rfl (lv_at hl 2 rfl) ?_
    refine io_g_10_11 B Z dX10_go_32 ?_
    refine lv_iload_n B.1 B.2.1 dX10_go_35 rfl (lv_at hl 4 rfl) ?_
    refine io_iald B Z 119 (by decide) io_e_119 hw.1 dX10_go_36 ?_
    have hw := hw.2
    refine io_call_v Z (io_runV (ci := 10) (k := 111) [.int 0, .int (s2 119 (p2).toNatClampNeg)] [] B Z (io_c_X10_gives l D ca ad A _ 0 (s2 119 (p2).toNatClampNeg) _ hw) io_k_10_179 (io_hR (by decide) (by decide)) rfl (by decide) (io_e_111 _) rfl hl.1 (Nat.le_of_ble_eq_true rfl) dX10_go_37 ⟨Nat.le_refl _, Nat.le_refl _⟩) (fun s39 H locs hw Z => ?_)
    refine lv_goto (tgt := 253) B.1 B.2.1 dX10_go_40 (by decide) ?_
    exact io_ret_v B Z hr hlk hw dX10_go_253
def wj_X10_unwind_128 (σ : io_M) (x1 : Int32) (x2 : Int32) (x3 : Int32) (x4 : Int32) (y0 : Int32) (post : io_M → Prop) : Prop := ((y0 = 0 → (∀ s121, s121 = io_up σ 111 38 ((σ 111 38) - 1) → post s121)) ∧ (¬ (y0 = 0) → (vp_in x1 64 ∧ ∀ s102, s102 = io_up σ 144 (x1).toNatClampNeg ((σ 111 48)) → (vp_in x1 64 ∧ ∀ s104, s104 = io_up s102 145 (x1).toNatClampNeg ((s102 111 49)) → (vp_in x1 64 ∧ ∀ s106, s106 = io_up s104 146 (x1).toNatClampNeg ((s104 111 50)) → (∀ s108, s108 = io_up s106 111 48 0 → (vp_in x1 64 ∧ ∀ s110, s110 = io_up s108 141 (x1).toNatClampNeg ((x4 + 1)) → ((x3 = 28 → (vp_in x1 64 ∧ (vp_in 5 6 ∧ ∀ s115, s115 = io_up s110 123 (5 : Int32).toNatClampNeg ((s110 142 (x1).toNatClampNeg)) → (vp_in x1 64 ∧ (vp_in 5 6 ∧ ∀ s117, s117 = io_up s115 122 (5 : Int32).toNatClampNeg ((s115 143 (x1).toNatClampNeg)) → (vp_in x2 60 ∧ (wp_X10_begin s117 (s117 120 (x2).toNatClampNeg) (fun s120 => post s120)))))))) ∧ (¬ (x3 = 28) → (vp_in x2 60 ∧ (wp_X10_begin s110 (s110 120 (x2).toNatClampNeg) (fun s114 => post s114))))))))))))
def wj_X10_unwind_123 (σ : io_M) (x1 : Int32) (x2 : Int32) (x3 : Int32) (x4 : Int32) (post : io_M → Prop) : Prop := wj_X10_unwind_128 σ x1 x2 x3 x4 1 post
def wj_X10_unwind_127 (σ : io_M) (x1 : Int32) (x2 : Int32) (x3 : Int32) (x4 : Int32) (post : io_M → Prop) : Prop := wj_X10_unwind_128 σ x1 x2 x3 x4 0 post
def wj_X10_unwind_111 (σ : io_M) (x1 : Int32) (x2 : Int32) (x3 : Int32) (x4 : Int32) (post : io_M → Prop) : Prop := ((x3 = 28 → ((x4 = 2 → wj_X10_unwind_123 σ x1 x2 x3 x4 post) ∧ (¬ (x4 = 2) → wj_X10_unwind_127 σ x1 x2 x3 x4 post))) ∧ (¬ (x3 = 28) → wj_X10_unwind_127 σ x1 x2 x3 x4 post))
def wj_X10_unwind_99 (σ : io_M) (x1 : Int32) (x2 : Int32) (x3 : Int32) (x4 : Int32) (post : io_M → Prop) : Prop := ((x3 = 27 → ((x4 = 1 → wj_X10_unwind_123 σ x1 x2 x3 x4 post) ∧ (¬ (x4 = 1) → wj_X10_unwind_111 σ x1 x2 x3 x4 post))) ∧ (¬ (x3 = 27) → wj_X10_unwind_111 σ x1 x2 x3 x4 post))
def wp_X10_unwind (σ : io_M) (p1 : Int32) (post : io_M → Prop) : Prop := (vp_in p1 64 ∧ (vp_in (σ 140 (p1).toNatClampNeg) 60 ∧ (vp_in p1 64 ∧ (((σ 118 ((σ 140 (p1).toNatClampNeg)).toNatClampNeg) = 26 → (((σ 141 (p1).toNatClampNeg) = 1 → (((σ 111 48) = 1 → (vp_in (σ 140 (p1).toNatClampNeg) 60 ∧ (((((σ 121 ((σ 140 (p1).toNatClampNeg)).toNatClampNeg) >>> ((σ 111 49) &&& 31)) &&& 1) = 1 → (vp_in 0 6 ∧ ∀ s6, s6 = io_up σ 122 (0 : Int32).toNatClampNeg (0) → (vp_in 0 6 ∧ ∀ s8, s8 = io_up s6 123 (0 : Int32).toNatClampNeg ((s6 111 49)) → (∀ s10, s10 = io_up s8 111 48 0 → (vp_in p1 64 ∧ ∀ s12, s12 = io_up s10 141 (p1).toNatClampNeg (2) → (vp_in (σ 140 (p1).toNatClampNeg) 60 ∧ (wp_X10_begin s12 (s12 120 ((σ 140 (p1).toNatClampNeg)).toNatClampNeg) (fun s15 => post s15)))))))) ∧ (¬ ((((σ 121 ((σ 140 (p1).toNatClampNeg)).toNatClampNeg) >>> ((σ 111 49) &&& 31)) &&& 1) = 1) → wj_X10_unwind_99 σ p1 (σ 140 (p1).toNatClampNeg) (σ 118 ((σ 140 (p1).toNatClampNeg)).toNatClampNeg) (σ 141 (p1).toNatClampNeg) post)))) ∧ (¬ ((σ 111 48) = 1) → wj_X10_unwind_99 σ p1 (σ 140 (p1).toNatClampNeg) (σ 118 ((σ 140 (p1).toNatClampNeg)).toNatClampNeg) (σ 141 (p1).toNatClampNeg) post))) ∧ (¬ ((σ 141 (p1).toNatClampNeg) = 1) → wj_X10_unwind_99 σ p1 (σ 140 (p1).toNatClampNeg) (σ 118 ((σ 140 (p1).toNatClampNeg)).toNatClampNeg) (σ 141 (p1).toNatClampNeg) post))) ∧ (¬ ((σ 118 ((σ 140 (p1).toNatClampNeg)).toNatClampNeg) = 26) → wj_X10_unwind_99 σ p1 (σ 140 (p1).toNatClampNeg) (σ 118 ((σ 140 (p1).toNatClampNeg)).toNatClampNeg) (σ 141 (p1).toNatClampNeg) post)))))
set_option maxHeartbeats 4000000 in
set_option maxRecDepth 100000 in
theorem io_c_X10_unwind (l : Launch) (D : va_G) (ca : Nat → ClassId) (ad : Nat → Nat) (A : Nat → Prop) (σ : io_M) (p1 : Int32) (post : io_M → Prop) (hw : wp_X10_unwind σ p1 post) : Met l yX10_unwind (.code yX10_unwind cX10_unwind 6 none :: io_tb) (io_rm 1) (va_Pc [.ref (ad 111), .int p1] (io_W D ca ad A σ)) (va_Qv post (io_W D ca ad A) A) 0 0 A := by
  refine Met.ofW (cc := cX10_unwind) (maxL := 6) (ret := none) (by decide) rfl ?_
  intro p e s m args below meth c s₁ Bd hml hv
  obtain ⟨rfl, hW0⟩ := hv
  have Z := io_Z.start hW0
  have B : CallFix p m c cX10_unwind 6 s _ io_tb RX10 := ⟨Bd.exec, Bd.bytes, hml, findClass_of_methodNamed Bd.named, fun w hw => atoms_spec (ws := (.code yX10_unwind cX10_unwind 6 none :: io_tb)) Bd.pre w (List.mem_cons_of_mem _ hw)⟩
  have hr := Bd.returns
  have hlk := Bd.notSynchronized
  have hl := lv_entry ([.ref (ad 111), .int p1]) (n := 6) (Nat.le_of_ble_eq_true rfl)
  rw [lg_entry_eq]
  generalize (lg_sl ([.ref (ad 111), .int p1]) ++ List.replicate (6 - (lg_sl ([.ref (ad 111), .int p1])).length) Slot.unset).toArray = ls at hl ⊢
  have hl : lv_has ls 6 [(0, .ref (ad 111)), (1, .int p1)] := hl
  show W p l e (io_rm 1) s m _ below meth c s.heap [] 0 0 _ (F0 m 0 ls [])
  have JN128 : ∀ (σ : io_M) (x1 : Int32) (x2 : Int32) (x3 : Int32) (x4 : Int32) (y0 : Int32), wj_X10_unwind_128 σ x1 x2 x3 x4 y0 post → ∀ (H : Heap) (locs : List Loc), io_Z D ca ad A s H locs σ → ∀ ls : Array Slot, lv_has ls 6 [(0, .ref (ad 111)), (1, .int x1), (2, .int x2), (3, .int x3), (4, .int x4)] → W p l e (io_rm 1) s m ([.ref (ad 111), .int p1] : List Value).toArray below meth c H locs 0 0 (MQ below (va_Qv post (io_W D ca ad A) A) ([.ref (ad 111), .int p1] : List Value).toArray s 0 0 A) (F0 m 128 ls [.int y0]) := by
    intro σ x1 x2 x3 x4 y0 hw H locs Z ls hl
    unfold wj_X10_unwind_128 at hw
    refine lv_istore (lv' := [(5, .int y0), (0, .ref (ad 111)), (1, .int x1), (2, .int x2), (3, .int x3), (4, .int x4)]) B.1 B.2.1 dX10_unwind_128 hl (by decide) rfl (fun ls hl => ?_)
    refine lv_iload B.1 B.2.1 dX10_unwind_130 (lv_at hl 0 rfl) ?_
    refine lv_if_ne (tgt := 146) B.1 B.2.1 dX10_unwind_132 (by decide) (fun k101 => ?_) (fun k101 => ?_)
    · have hw := hw.2 k101
      refine lv_aload_n B.1 B.2.1 dX10_unwind_146 rfl (lv_at hl 1 rfl) ?_
      refine io_g_10_43 B Z dX10_unwind_147 ?_
      refine lv_iload_n B.1 B.2.1 dX10_unwind_150 rfl (lv_at hl 2 rfl) ?_
      refine lv_aload_n B.1 B.2.1 dX10_unwind_151 rfl (lv_at hl 1 rfl) ?_
      refine io_g_10_48 B Z dX10_unwind_152 ?_
      refine io_iast B Z 144 (by decide) io_e_144 hw.1 dX10_unwind_155 (fun s102 H locs e103 Z => ?_)
      have hw := hw.2 s102 e103
      refine lv_aload_n B.1 B.2.1 dX10_unwind_156 rfl (lv_at hl 1 rfl) ?_
      refine io_g_10_44 B Z dX10_unwind_157 ?_
      refine lv_iload_n B.1 B.2.1 dX10_unwind_160 rfl (lv_at hl 2 rfl) ?_
      refine lv_aload_n B.1 B.2.1 dX10_unwind_161 rfl (lv_at hl 1 rfl) ?_
      refine io_g_10_49 B Z dX10_unwind_162 ?_
      refine io_iast B Z 145 (by decide) io_e_145 hw.1 dX10_unwind_165 (fun s104 H locs e105 Z => ?_)
      have hw := hw.2 s104 e105
      refine lv_aload_n B.1 B.2.1 dX10_unwind_166 rfl (lv_at hl 1 rfl) ?_
      refine io_g_10_45 B Z dX10_unwind_167 ?_
      refine lv_iload_n B.1 B.2.1 dX10_unwind_170 rfl (lv_at hl 2 rfl) ?_
      refine lv_aload_n B.1 B.2.1 dX10_unwind_171 rfl (lv_at hl 1 rfl) ?_
      refine io_g_10_50 B Z dX10_unwind_172 ?_
      refine io_iast B Z 146 (by decide) io_e_146 hw.1 dX10_unwind_175 (fun s106 H locs e107 Z => ?_)
      have hw := hw.2 s106 e107
      refine lv_aload_n B.1 B.2.1 dX10_unwind_176 rfl (lv_at hl 1 rfl) ?_
      refine lv_iconst (v := 0) B.1 B.2.1 dX10_unwind_177 (by decide) ?_
      refine io_p_10_48 B Z dX10_unwind_178 (fun s108 H locs e109 Z => ?_)
      have hw := hw s108 e109
      refine lv_aload_n B.1 B.2.1 dX10_unwind_181 rfl (lv_at hl 1 rfl) ?_
      refine io_g_10_40 B Z dX10_unwind_182 ?_
      refine lv_iload_n B.1 B.2.1 dX10_unwind_185 rfl (lv_at hl 2 rfl) ?_
      refine lv_iload B.1 B.2.1 dX10_unwind_186 (lv_at hl 5 rfl) ?_
      refine lv_iconst (v := 1) B.1 B.2.1 dX10_unwind_188 (by decide) ?_
      refine lv_iadd B.1 B.2.1 dX10_unwind_189 ?_
      refine io_iast B Z 141 (by decide) io_e_141 hw.1 dX10_unwind_190 (fun s110 H locs e111 Z => ?_)
      have hw := hw.2 s110 e111
      refine lv_iload_n B.1 B.2.1 dX10_unwind_191 rfl (lv_at hl 4 rfl) ?_
      refine lv_bipush (v := 28) B.1 B.2.1 dX10_unwind_192 (by decide) ?_
      refine lv_icmp_ne (tgt := 221) B.1 B.2.1 dX10_unwind_194 (by decide) (fun k112 => ?_) (fun k112 => ?_)
      · have hw := hw.2 k112
        refine lv_aload_n B.1 B.2.1 dX10_unwind_221 rfl (lv_at hl 1 rfl) ?_
        refine lv_aload_n B.1 B.2.1 dX10_unwind_222 rfl (lv_at hl 1 rfl) ?_
        refine io_g_10_12 B Z dX10_unwind_223 ?_
        refine lv_iload_n B.1 B.2.1 dX10_unwind_226 rfl (lv_at hl 3 rfl) ?_
        refine io_iald B Z 120 (by decide) io_e_120 hw.1 dX10_unwind_227 ?_
        have hw := hw.2
        refine io_call_v Z (io_runV (ci := 10) (k := 111) [.int (s110 120 (x2).toNatClampNeg)] [] B Z (io_c_X10_begin l D ca ad A _ (s110 120 (x2).toNatClampNeg) _ hw) io_k_10_209 (io_hR (by decide) (by decide)) rfl (by decide) (io_e_111 _) rfl hl.1 (Nat.le_of_ble_eq_true rfl) dX10_unwind_228 ⟨Nat.le_refl _, Nat.le_refl _⟩) (fun s114 H locs hw Z => ?_)
        exact io_ret_v B Z hr hlk hw dX10_unwind_231
      · have hw := hw.1 k112
        refine lv_aload_n B.1 B.2.1 dX10_unwind_197 rfl (lv_at hl 1 rfl) ?_
        refine io_g_10_15 B Z dX10_unwind_198 ?_
        refine lv_iconst (v := 5) B.1 B.2.1 dX10_unwind_201 (by decide) ?_
        refine lv_aload_n B.1 B.2.1 dX10_unwind_202 rfl (lv_at hl 1 rfl) ?_
        refine io_g_10_41 B Z dX10_unwind_203 ?_
        refine lv_iload_n B.1 B.2.1 dX10_unwind_206 rfl (lv_at hl 2 rfl) ?_
        refine io_iald B Z 142 (by decide) io_e_142 hw.1 dX10_unwind_207 ?_
        have hw := hw.2
        refine io_iast B Z 123 (by decide) io_e_123 hw.1 dX10_unwind_208 (fun s115 H locs e116 Z => ?_)
        have hw := hw.2 s115 e116
        refine lv_aload_n B.1 B.2.1 dX10_unwind_209 rfl (lv_at hl 1 rfl) ?_
        refine io_g_10_14 B Z dX10_unwind_210 ?_
        refine lv_iconst (v := 5) B.1 B.2.1 dX10_unwind_213 (by decide) ?_
        refine lv_aload_n B.1 B.2.1 dX10_unwind_214 rfl (lv_at hl 1 rfl) ?_
        refine io_g_10_42 B Z dX10_unwind_215 ?_
        refine lv_iload_n B.1 B.2.1 dX10_unwind_218 rfl (lv_at hl 2 rfl) ?_
        refine io_iald B Z 143 (by decide) io_e_143 hw.1 dX10_unwind_219 ?_
        have hw := hw.2
        refine io_iast B Z 122 (by decide) io_e_122 hw.1 dX10_unwind_220 (fun s117 H locs e118 Z => ?_)
        have hw := hw.2 s117 e118
        refine lv_aload_n B.1 B.2.1 dX10_unwind_221 rfl (lv_at hl 1 rfl) ?_
        refine lv_aload_n B.1 B.2.1 dX10_unwind_222 rfl (lv_at hl 1 rfl) ?_
        refine io_g_10_12 B Z dX10_unwind_223 ?_
        refine lv_iload_n B.1 B.2.1 dX10_unwind_226 rfl (lv_at hl 3 rfl) ?_
        refine io_iald B Z 120 (by decide) io_e_120 hw.1 dX10_unwind_227 ?_
        have hw := hw.2
        refine io_call_v Z (io_runV (ci := 10) (k := 111) [.int (s117 120 (x2).toNatClampNeg)] [] B Z (io_c_X10_begin l D ca ad A _ (s117 120 (x2).toNatClampNeg) _ hw) io_k_10_209 (io_hR (by decide) (by decide)) rfl (by decide) (io_e_111 _) rfl hl.1 (Nat.le_of_ble_eq_true rfl) dX10_unwind_228 ⟨Nat.le_refl _, Nat.le_refl _⟩) (fun s120 H locs hw Z => ?_)
        exact io_ret_v B Z hr hlk hw dX10_unwind_231
    · have hw := hw.1 k101
      refine lv_aload_n B.1 B.2.1 dX10_unwind_135 rfl (lv_at hl 1 rfl) ?_
      refine lv_dup B.1 B.2.1 dX10_unwind_136 rfl ?_
      refine io_g_10_38 B Z dX10_unwind_137 ?_
      refine lv_iconst (v := 1) B.1 B.2.1 dX10_unwind_140 (by decide) ?_
      refine lv_isub B.1 B.2.1 dX10_unwind_141 ?_
      refine io_p_10_38 B Z dX10_unwind_142 (fun s121 H locs e122 Z => ?_)
      have hw := hw s121 e122
      exact io_ret_v B Z hr hlk hw dX10_unwind_145
  have JN123 : ∀ (σ : io_M) (x1 : Int32) (x2 : Int32) (x3 : Int32) (x4 : Int32), wj_X10_unwind_123 σ x1 x2 x3 x4 post → ∀ (H : Heap) (locs : List Loc), io_Z D ca ad A s H locs σ → ∀ ls : Array Slot, lv_has ls 6 [(0, .ref (ad 111)), (1, .int x1), (2, .int x2), (3, .int x3), (4, .int x4)] → W p l e (io_rm 1) s m ([.ref (ad 111), .int p1] : List Value).toArray below meth c H locs 0 0 (MQ below (va_Qv post (io_W D ca ad A) A) ([.ref (ad 111), .int p1] : List Value).toArray s 0 0 A) (F0 m 123 ls []) := by
    intro σ x1 x2 x3 x4 hw H locs Z ls hl
    unfold wj_X10_unwind_123 at hw
    refine lv_iconst (v := 1) B.1 B.2.1 dX10_unwind_123 (by decide) ?_
    refine lv_goto (tgt := 128) B.1 B.2.1 dX10_unwind_124 (by decide) ?_
    exact JN128 _ x1 x2 x3 x4 1 hw _ _ Z _ (lv_sub (l' := [(0, .ref (ad 111)), (1, .int x1), (2, .int x2), (3, .int x3), (4, .int x4)]) hl [0, 1, 2, 3, 4] rfl)
  have JN127 : ∀ (σ : io_M) (x1 : Int32) (x2 : Int32) (x3 : Int32) (x4 : Int32), wj_X10_unwind_127 σ x1 x2 x3 x4 post → ∀ (H : Heap) (locs : List Loc), io_Z D ca ad A s H locs σ → ∀ ls : Array Slot, lv_has ls 6 [(0, .ref (ad 111)), (1, .int x1), (2, .int x2), (3, .int x3), (4, .int x4)] → W p l e (io_rm 1) s m ([.ref (ad 111), .int p1] : List Value).toArray below meth c H locs 0 0 (MQ below (va_Qv post (io_W D ca ad A) A) ([.ref (ad 111), .int p1] : List Value).toArray s 0 0 A) (F0 m 127 ls []) := by
    intro σ x1 x2 x3 x4 hw H locs Z ls hl
    unfold wj_X10_unwind_127 at hw
    refine lv_iconst (v := 0) B.1 B.2.1 dX10_unwind_127 (by decide) ?_
    exact JN128 _ x1 x2 x3 x4 0 hw _ _ Z _ (lv_sub (l' := [(0, .ref (ad 111)), (1, .int x1), (2, .int x2), (3, .int x3), (4, .int x4)]) hl [0, 1, 2, 3, 4] rfl)
  have JN111 : ∀ (σ : io_M) (x1 : Int32) (x2 : Int32) (x3 : Int32) (x4 : Int32), wj_X10_unwind_111 σ x1 x2 x3 x4 post → ∀ (H : Heap) (locs : List Loc), io_Z D ca ad A s H locs σ → ∀ ls : Array Slot, lv_has ls 6 [(0, .ref (ad 111)), (1, .int x1), (2, .int x2), (3, .int x3), (4, .int x4)] → W p l e (io_rm 1) s m ([.ref (ad 111), .int p1] : List Value).toArray below meth c H locs 0 0 (MQ below (va_Qv post (io_W D ca ad A) A) ([.ref (ad 111), .int p1] : List Value).toArray s 0 0 A) (F0 m 111 ls []) := by
    intro σ x1 x2 x3 x4 hw H locs Z ls hl
    unfold wj_X10_unwind_111 at hw
    refine lv_iload_n B.1 B.2.1 dX10_unwind_111 rfl (lv_at hl 3 rfl) ?_
    refine lv_bipush (v := 28) B.1 B.2.1 dX10_unwind_112 (by decide) ?_
    refine lv_icmp_ne (tgt := 127) B.1 B.2.1 dX10_unwind_114 (by decide) (fun k401 => ?_) (fun k401 => ?_)
    · have hw := hw.2 k401
      exact JN127 _ x1 x2 x3 x4 hw _ _ Z _ (lv_sub (l' := [(0, .ref (ad 111)), (1, .int x1), (2, .int x2), (3, .int x3), (4, .int x4)]) hl [0, 1, 2, 3, 4] rfl)
    · have hw := hw.1 k401
      refine lv_iload B.1 B.2.1 dX10_unwind_117 (lv_at hl 4 rfl) ?_
      refine lv_iconst (v := 2) B.1 B.2.1 dX10_unwind_119 (by decide) ?_
      refine lv_icmp_ne (tgt := 127) B.1 B.2.1 dX10_unwind_120 (by decide) (fun k402 => ?_) (fun k402 => ?_)
      · have hw := hw.2 k402
        exact JN127 _ x1 x2 x3 x4 hw _ _ Z _ (lv_sub (l' := [(0, .ref (ad 111)), (1, .int x1), (2, .int x2), (3, .int x3), (4, .int x4)]) hl [0, 1, 2, 3, 4] rfl)
      · have hw := hw.1 k402
        exact JN123 _ x1 x2 x3 x4 hw _ _ Z _ (lv_sub (l' := [(0, .ref (ad 111)), (1, .int x1), (2, .int x2), (3, .int x3), (4, .int x4)]) hl [0, 1, 2, 3, 4] rfl)
  have JN99 : ∀ (σ : io_M) (x1 : Int32) (x2 : Int32) (x3 : Int32) (x4 : Int32), wj_X10_unwind_99 σ x1 x2 x3 x4 post → ∀ (H : Heap) (locs : List Loc), io_Z D ca ad A s H locs σ → ∀ ls : Array Slot, lv_has ls 6 [(0, .ref (ad 111)), (1, .int x1), (2, .int x2), (3, .int x3), (4, .int x4)] → W p l e (io_rm 1) s m ([.ref (ad 111), .int p1] : List Value).toArray below meth c H locs 0 0 (MQ below (va_Qv post (io_W D ca ad A) A) ([.ref (ad 111), .int p1] : List Value).toArray s 0 0 A) (F0 m 99 ls []) := by
    intro σ x1 x2 x3 x4 hw H locs Z ls hl
    unfold wj_X10_unwind_99 at hw
    refine lv_iload_n B.1 B.2.1 dX10_unwind_99 rfl (lv_at hl 3 rfl) ?_
    refine lv_bipush (v := 27) B.1 B.2.1 dX10_unwind_100 (by decide) ?_
    refine lv_icmp_ne (tgt := 111) B.1 B.2.1 dX10_unwind_102 (by decide) (fun k501 => ?_) (fun k501 => ?_)
    · have hw := hw.2 k501
      exact JN111 _ x1 x2 x3 x4 hw _ _ Z _ (lv_sub (l' := [(0, .ref (ad 111)), (1, .int x1), (2, .int x2), (3, .int x3), (4, .int x4)]) hl [0, 1, 2, 3, 4] rfl)
    · have hw := hw.1 k501
      refine lv_iload B.1 B.2.1 dX10_unwind_105 (lv_at hl 4 rfl) ?_
      refine lv_iconst (v := 1) B.1 B.2.1 dX10_unwind_107 (by decide) ?_
      refine lv_icmp_eq (tgt := 123) B.1 B.2.1 dX10_unwind_108 (by decide) (fun k502 => ?_) (fun k502 => ?_)
      · have hw := hw.1 k502
        exact JN123 _ x1 x2 x3 x4 hw _ _ Z _ (lv_sub (l' := [(0, .ref (ad 111)), (1, .int x1), (2, .int x2), (3, .int x3), (4, .int x4)]) hl [0, 1, 2, 3, 4] rfl)
      · have hw := hw.2 k502
        exact JN111 _ x1 x2 x3 x4 hw _ _ Z _ (lv_sub (l' := [(0, .ref (ad 111)), (1, .int x1), (2, .int x2), (3, .int x3), (4, .int x4)]) hl [0, 1, 2, 3, 4] rfl)
  unfold wp_X10_unwind at hw
  refine lv_aload_n B.1 B.2.1 dX10_unwind_0 rfl (lv_at hl 0 rfl) ?_
  refine io_g_10_39 B Z dX10_unwind_1 ?_
  refine lv_iload_n B.1 B.2.1 dX10_unwind_4 rfl (lv_at hl 1 rfl) ?_
  refine io_iald B Z 140 (by decide) io_e_140 hw.1 dX10_unwind_5 ?_
  have hw := hw.2
  refine lv_istore_n (lv' := [(2, .int (σ 140 (p1).toNatClampNeg)), (0, .ref (ad 111)), (1, .int p1)]) B.1 B.2.1 dX10_unwind_6 rfl hl (by decide) rfl (fun ls hl => ?_)
  refine lv_aload_n B.1 B.2.1 dX10_unwind_7 rfl (lv_at hl 1 rfl) ?_
  refine io_g_10_10 B Z dX10_unwind_8 ?_
  refine lv_iload_n B.1 B.2.1 dX10_unwind_11 rfl (lv_at hl 0 rfl) ?_
  refine io_iald B Z 118 (by decide) io_e_118 hw.1 dX10_unwind_12 ?_
  have hw := hw.2
  refine lv_istore_n (lv' := [(3, .int (σ 118 ((σ 140 (p1).toNatClampNeg)).toNatClampNeg)), (2, .int (σ 140 (p1).toNatClampNeg)), (0, .ref (ad 111)), (1, .int p1)]) B.1 B.2.1 dX10_unwind_13 rfl hl (by decide) rfl (fun ls hl => ?_)
  refine lv_aload_n B.1 B.2.1 dX10_unwind_14 rfl (lv_at hl 2 rfl) ?_
  refine io_g_10_40 B Z dX10_unwind_15 ?_
  refine lv_iload_n B.1 B.2.1 dX10_unwind_18 rfl (lv_at hl 3 rfl) ?_
  refine io_iald B Z 141 (by decide) io_e_141 hw.1 dX10_unwind_19 ?_
  have hw := hw.2
  refine lv_istore (lv' := [(4, .int (σ 141 (p1).toNatClampNeg)), (3, .int (σ 118 ((σ 140 (p1).toNatClampNeg)).toNatClampNeg)), (2, .int (σ 140 (p1).toNatClampNeg)), (0, .ref (ad 111)), (1, .int p1)]) B.1 B.2.1 dX10_unwind_20 hl (by decide) rfl (fun ls hl => ?_)
  refine lv_iload_n B.1 B.2.1 dX10_unwind_22 rfl (lv_at hl 1 rfl) ?_
  refine lv_bipush (v := 26) B.1 B.2.1 dX10_unwind_23 (by decide) ?_
  refine lv_icmp_ne (tgt := 99) B.1 B.2.1 dX10_unwind_25 (by decide) (fun k2 => ?_) (fun k2 => ?_)
  · have hw := hw.2 k2
    exact JN99 _ p1 (σ 140 (p1).toNatClampNeg) (σ 118 ((σ 140 (p1).toNatClampNeg)).toNatClampNeg) (σ 141 (p1).toNatClampNeg) hw _ _ Z _ (lv_sub (l' := [(0, .ref (ad 111)), (1, .int p1), (2, .int (σ 140 (p1).toNatClampNeg)), (3, .int (σ 118 ((σ 140 (p1).toNatClampNeg)).toNatClampNeg)), (4, .int (σ 141 (p1).toNatClampNeg))]) hl [3, 4, 2, 1, 0] rfl)
  · have hw := hw.1 k2
    refine lv_iload B.1 B.2.1 dX10_unwind_28 (lv_at hl 0 rfl) ?_
    refine lv_iconst (v := 1) B.1 B.2.1 dX10_unwind_30 (by decide) ?_
    refine lv_icmp_ne (tgt := 99) B.1 B.2.1 dX10_unwind_31 (by decide) (fun k3 => ?_) (fun k3 => ?_)
    · have hw := hw.2 k3
      exact JN99 _ p1 (σ 140 (p1).toNatClampNeg) (σ 118 ((σ 140 (p1).toNatClampNeg)).toNatClampNeg) (σ 141 (p1).toNatClampNeg) hw _ _ Z _ (lv_sub (l' := [(0, .ref (ad 111)), (1, .int p1), (2, .int (σ 140 (p1).toNatClampNeg)), (3, .int (σ 118 ((σ 140 (p1).toNatClampNeg)).toNatClampNeg)), (4, .int (σ 141 (p1).toNatClampNeg))]) hl [3, 4, 2, 1, 0] rfl)
    · have hw := hw.1 k3
      refine lv_aload_n B.1 B.2.1 dX10_unwind_34 rfl (lv_at hl 3 rfl) ?_
      refine io_g_10_48 B Z dX10_unwind_35 ?_
      refine lv_iconst (v := 1) B.1 B.2.1 dX10_unwind_38 (by decide) ?_
      refine lv_icmp_ne (tgt := 99) B.1 B.2.1 dX10_unwind_39 (by decide) (fun k4 => ?_) (fun k4 => ?_)
      · have hw := hw.2 k4
        exact JN99 _ p1 (σ 140 (p1).toNatClampNeg) (σ 118 ((σ 140 (p1).toNatClampNeg)).toNatClampNeg) (σ 141 (p1).toNatClampNeg) hw _ _ Z _ (lv_sub (l' := [(0, .ref (ad 111)), (1, .int p1), (2, .int (σ 140 (p1).toNatClampNeg)), (3, .int (σ 118 ((σ 140 (p1).toNatClampNeg)).toNatClampNeg)), (4, .int (σ 141 (p1).toNatClampNeg))]) hl [3, 4, 2, 1, 0] rfl)
      · have hw := hw.1 k4
        refine lv_aload_n B.1 B.2.1 dX10_unwind_42 rfl (lv_at hl 3 rfl) ?_
        refine io_g_10_13 B Z dX10_unwind_43 ?_
        refine lv_iload_n B.1 B.2.1 dX10_unwind_46 rfl (lv_at hl 2 rfl) ?_
        refine io_iald B Z 121 (by decide) io_e_121 hw.1 dX10_unwind_47 ?_
        have hw := hw.2
        refine lv_aload_n B.1 B.2.1 dX10_unwind_48 rfl (lv_at hl 3 rfl) ?_
        refine io_g_10_49 B Z dX10_unwind_49 ?_
        refine lv_ishr B.1 B.2.1 dX10_unwind_52 ?_
        refine lv_iconst (v := 1) B.1 B.2.1 dX10_unwind_53 (by decide) ?_
        refine lv_iand B.1 B.2.1 dX10_unwind_54 ?_
        refine lv_iconst (v := 1) B.1 B.2.1 dX10_unwind_55 (by decide) ?_
        refine lv_icmp_ne (tgt := 99) B.1 B.2.1 dX10_unwind_56 (by decide) (fun k5 => ?_) (fun k5 => ?_)
        · have hw := hw.2 k5
          exact JN99 _ p1 (σ 140 (p1).toNatClampNeg) (σ 118 ((σ 140 (p1).toNatClampNeg)).toNatClampNeg) (σ 141 (p1).toNatClampNeg) hw _ _ Z _ (lv_sub (l' := [(0, .ref (ad 111)), (1, .int p1), (2, .int (σ 140 (p1).toNatClampNeg)), (3, .int (σ 118 ((σ 140 (p1).toNatClampNeg)).toNatClampNeg)), (4, .int (σ 141 (p1).toNatClampNeg))]) hl [3, 4, 2, 1, 0] rfl)
        · have hw := hw.1 k5
          refine lv_aload_n B.1 B.2.1 dX10_unwind_59 rfl (lv_at hl 3 rfl) ?_
          refine io_g_10_14 B Z dX10_unwind_60 ?_
          refine lv_iconst (v := 0) B.1 B.2.1 dX10_unwind_63 (by decide) ?_
          refine lv_iconst (v := 0) B.1 B.2.1 dX10_unwind_64 (by decide) ?_
          refine io_iast B Z 122 (by decide) io_e_122 hw.1 dX10_unwind_65 (fun s6 H locs e7 Z => ?_)
          have hw := hw.2 s6 e7
          refine lv_aload_n B.1 B.2.1 dX10_unwind_66 rfl (lv_at hl 3 rfl) ?_
          refine io_g_10_15 B Z dX10_unwind_67 ?_
          refine lv_iconst (v := 0) B.1 B.2.1 dX10_unwind_70 (by decide) ?_
          refine lv_aload_n B.1 B.2.1 dX10_unwind_71 rfl (lv_at hl 3 rfl) ?_
          refine io_g_10_49 B Z dX10_unwind_72 ?_
          refine io_iast B Z 123 (by decide) io_e_123 hw.1 dX10_unwind_75 (fun s8 H locs e9 Z => ?_)
          have hw := hw.2 s8 e9
          refine lv_aload_n B.1 B.2.1 dX10_unwind_76 rfl (lv_at hl 3 rfl) ?_
          refine lv_iconst (v := 0) B.1 B.2.1 dX10_unwind_77 (by decide) ?_
          refine io_p_10_48 B Z dX10_unwind_78 (fun s10 H locs e11 Z => ?_)
          have hw := hw s10 e11
          refine lv_aload_n B.1 B.2.1 dX10_unwind_81 rfl (lv_at hl 3 rfl) ?_
          refine io_g_10_40 B Z dX10_unwind_82 ?_
          refine lv_iload_n B.1 B.2.1 dX10_unwind_85 rfl (lv_at hl 4 rfl) ?_
          refine lv_iconst (v := 2) B.1 B.2.1 dX10_unwind_86 (by decide) ?_
          refine io_iast B Z 141 (by decide) io_e_141 hw.1 dX10_unwind_87 (fun s12 H locs e13 Z => ?_)
          have hw := hw.2 s12 e13
          refine lv_aload_n B.1 B.2.1 dX10_unwind_88 rfl (lv_at hl 3 rfl) ?_
          refine lv_aload_n B.1 B.2.1 dX10_unwind_89 rfl (lv_at hl 3 rfl) ?_
          refine io_g_10_12 B Z dX10_unwind_90 ?_
          refine lv_iload_n B.1 B.2.1 dX10_unwind_93 rfl (lv_at hl 2 rfl) ?_
          refine io_iald B Z 120 (by decide) io_e_120 hw.1 dX10_unwind_94 ?_
          have hw := hw.2
          refine io_call_v Z (io_runV (ci := 10) (k := 111) [.int (s12 120 ((σ 140 (p1).toNatClampNeg)).toNatClampNeg)] [] B Z (io_c_X10_begin l D ca ad A _ (s12 120 ((σ 140 (p1).toNatClampNeg)).toNatClampNeg) _ hw) io_k_10_209 (io_hR (by decide) (by decide)) rfl (by decide) (io_e_111 _) rfl hl.1 (Nat.le_of_ble_eq_true rfl) dX10_unwind_95 ⟨Nat.le_refl _, Nat.le_refl _⟩) (fun s15 H locs hw Z => ?_)
          exact io_ret_v B Z hr hlk hw dX10_unwind_98
def wl_X10_work_0 : Nat → io_M → (io_M → Prop) → Prop
  | 0, _, _ => False
  | n + 1, σ, post => (((σ 111 38) ≤ 0 → post σ) ∧ (¬ ((σ 111 38) ≤ 0) → (((σ 111 48) = 3 → post σ) ∧ (¬ ((σ 111 48) = 3) → (((σ 111 48) = 0 → (vp_in ((σ 111 38) - 1) 64 ∧ (wp_X10_go σ ((σ 111 38) - 1) (σ 140 (((σ 111 38) - 1)).toNatClampNeg) (fun s105 => wl_X10_work_0 n s105 post)))) ∧ (¬ ((σ 111 48) = 0) → (wp_X10_unwind σ ((σ 111 38) - 1) (fun s107 => wl_X10_work_0 n s107 post))))))))
def wp_X10_work (σ : io_M) (post : io_M → Prop) : Prop := (∃ n, wl_X10_work_0 n σ post)
set_option maxHeartbeats 4000000 in
set_option maxRecDepth 100000 in
theorem io_c_X10_work (l : Launch) (D : va_G) (ca : Nat → ClassId) (ad : Nat → Nat) (A : Nat → Prop) (σ : io_M) (post : io_M → Prop) (hw : wp_X10_work σ post) : Met l yX10_work (.code yX10_work cX10_work 2 none :: io_tb) (io_rm 6) (va_Pc [.ref (ad 111)] (io_W D ca ad A σ)) (va_Qv post (io_W D ca ad A) A) 0 0 A := by
  refine Met.ofW (cc := cX10_work) (maxL := 2) (ret := none) (by decide) rfl ?_
  intro p e s m args below meth c s₁ Bd hml hv
  obtain ⟨rfl, hW0⟩ := hv
  have Z := io_Z.start hW0
  have B : CallFix p m c cX10_work 2 s _ io_tb RX10 := ⟨Bd.exec, Bd.bytes, hml, findClass_of_methodNamed Bd.named, fun w hw => atoms_spec (ws := (.code yX10_work cX10_work 2 none :: io_tb)) Bd.pre w (List.mem_cons_of_mem _ hw)⟩
  have hr := Bd.returns
  have hlk := Bd.notSynchronized
  have hl := lv_entry ([.ref (ad 111)]) (n := 2) (Nat.le_of_ble_eq_true rfl)
  rw [lg_entry_eq]
  generalize (lg_sl ([.ref (ad 111)]) ++ List.replicate (2 - (lg_sl ([.ref (ad 111)])).length) Slot.unset).toArray = ls at hl ⊢
  have hl : lv_has ls 2 [(0, .ref (ad 111))] := hl
  show W p l e (io_rm 6) s m _ below meth c s.heap [] 0 0 _ (F0 m 0 ls [])
  have LP0 : ∀ (n : Nat) (σ : io_M), wl_X10_work_0 n σ post → ∀ (H : Heap) (locs : List Loc), io_Z D ca ad A s H locs σ → ∀ ls : Array Slot, lv_has ls 2 [(0, .ref (ad 111))] → W p l e (io_rm 6) s m ([.ref (ad 111)] : List Value).toArray below meth c H locs 0 0 (MQ below (va_Qv post (io_W D ca ad A) A) ([.ref (ad 111)] : List Value).toArray s 0 0 A) (F0 m 0 ls []) := by
    intro n
    induction n with
    | zero =>
      intro σ hw
      exact hw.elim
    | succ n IH0 =>
      intro σ hw H locs Z ls hl
      unfold wl_X10_work_0 at hw
      refine lv_aload_n B.1 B.2.1 dX10_work_0 rfl (lv_at hl 0 rfl) ?_
      refine io_g_10_38 B Z dX10_work_1 ?_
      refine lv_if_le (tgt := 51) B.1 B.2.1 dX10_work_4 (by decide) (fun k101 => ?_) (fun k101 => ?_)
      · have hw := hw.1 k101
        exact io_ret_v B Z hr hlk hw dX10_work_51
      · have hw := hw.2 k101
        refine lv_aload_n B.1 B.2.1 dX10_work_7 rfl (lv_at hl 0 rfl) ?_
        refine io_g_10_48 B Z dX10_work_8 ?_
        refine lv_iconst (v := 3) B.1 B.2.1 dX10_work_11 (by decide) ?_
        refine lv_icmp_eq (tgt := 51) B.1 B.2.1 dX10_work_12 (by decide) (fun k102 => ?_) (fun k102 => ?_)
        · have hw := hw.1 k102
          exact io_ret_v B Z hr hlk hw dX10_work_51
        · have hw := hw.2 k102
          refine lv_aload_n B.1 B.2.1 dX10_work_15 rfl (lv_at hl 0 rfl) ?_
          refine io_g_10_38 B Z dX10_work_16 ?_
          refine lv_iconst (v := 1) B.1 B.2.1 dX10_work_19 (by decide) ?_
          refine lv_isub B.1 B.2.1 dX10_work_20 ?_
          refine lv_istore_n (lv' := [(1, .int ((σ 111 38) - 1)), (0, .ref (ad 111))]) B.1 B.2.1 dX10_work_21 rfl hl (by decide) rfl (fun ls hl => ?_)
          refine lv_aload_n B.1 B.2.1 dX10_work_22 rfl (lv_at hl 1 rfl) ?_
          refine io_g_10_48 B Z dX10_work_23 ?_
          refine lv_if_eq (tgt := 37) B.1 B.2.1 dX10_work_26 (by decide) (fun k103 => ?_) (fun k103 => ?_)
          · have hw := hw.1 k103
            refine lv_aload_n B.1 B.2.1 dX10_work_37 rfl (lv_at hl 1 rfl) ?_
            refine lv_iload_n B.1 B.2.1 dX10_work_38 rfl (lv_at hl 0 rfl) ?_
            refine lv_aload_n B.1 B.2.1 dX10_work_39 rfl (lv_at hl 1 rfl) ?_
            refine io_g_10_39 B Z dX10_work_40 ?_
            refine lv_iload_n B.1 B.2.1 dX10_work_43 rfl (lv_at hl 0 rfl) ?_
            refine io_iald B Z 140 (by decide) io_e_140 hw.1 dX10_work_44 ?_
            have hw := hw.2
            refine io_call_v Z (io_runV (ci := 10) (k := 111) [.int ((σ 111 38) - 1), .int (σ 140 (((σ 111 38) - 1)).toNatClampNeg)] [] B Z (io_c_X10_go l D ca ad A _ ((σ 111 38) - 1) (σ 140 (((σ 111 38) - 1)).toNatClampNeg) _ hw) io_k_10_206 (io_hR (by decide) (by decide)) rfl (by decide) (io_e_111 _) rfl hl.1 (Nat.le_of_ble_eq_true rfl) dX10_work_45 ⟨Nat.le_refl _, Nat.le_refl _⟩) (fun s105 H locs hw Z => ?_)
            refine lv_goto (tgt := 0) B.1 B.2.1 dX10_work_48 (by decide) ?_
            exact IH0 _ hw _ _ Z _ (lv_sub (l' := [(0, .ref (ad 111))]) hl [1] rfl)
          · have hw := hw.2 k103
            refine lv_aload_n B.1 B.2.1 dX10_work_29 rfl (lv_at hl 1 rfl) ?_
            refine lv_iload_n B.1 B.2.1 dX10_work_30 rfl (lv_at hl 0 rfl) ?_
            refine io_call_v Z (io_runV (ci := 10) (k := 111) [.int ((σ 111 38) - 1)] [] B Z (io_c_X10_unwind l D ca ad A _ ((σ 111 38) - 1) _ hw) io_k_10_203 (io_hR (by decide) (by decide)) rfl (by decide) (io_e_111 _) rfl hl.1 (Nat.le_of_ble_eq_true rfl) dX10_work_31 ⟨Nat.le_refl _, Nat.le_refl _⟩) (fun s107 H locs hw Z => ?_)
            refine lv_goto (tgt := 48) B.1 B.2.1 dX10_work_34 (by decide) ?_
            refine lv_goto (tgt := 0) B.1 B.2.1 dX10_work_48 (by decide) ?_
            exact IH0 _ hw _ _ Z _ (lv_sub (l' := [(0, .ref (ad 111))]) hl [1] rfl)
  unfold wp_X10_work at hw
  obtain ⟨n, hw⟩ := hw
  exact LP0 n _ hw _ _ Z _ (lv_sub (l' := [(0, .ref (ad 111))]) hl [0] rfl)
def wl_X10_run_202 : Nat → io_M → Int32 → Int32 → (Int32 → io_M → Prop) → Prop
  | 0, _, _, _, _ => False
  | n + 1, σ, x2, x3, post => (((σ 111 16) ≤ x3 → post x2 σ) ∧ (¬ ((σ 111 16) ≤ x3) → (vp_in x3 20 ∧ (((σ 127 (x3).toNatClampNeg) = 0 → (wp_X10_flush σ x3 (fun r105 s106 => ((r105 = 0 → (vp_in x3 20 ∧ ∀ s109, s109 = io_up s106 127 (x3).toNatClampNeg (2) → wl_X10_run_202 n s109 x2 (x3 + 1) post)) ∧ (¬ (r105 = 0) → (vp_in x3 20 ∧ ∀ s111, s111 = io_up s106 127 (x3).toNatClampNeg (2) → wl_X10_run_202 n s111 x2 (x3 + 1) post)))))) ∧ (¬ ((σ 127 (x3).toNatClampNeg) = 0) → (vp_in x3 20 ∧ ∀ s103, s103 = io_up σ 127 (x3).toNatClampNeg (2) → wl_X10_run_202 n s103 x2 (x3 + 1) post))))))
def wl_X10_run_174 : Nat → io_M → Int32 → Int32 → (Int32 → io_M → Prop) → Prop
  | 0, _, _, _, _ => False
  | n + 1, σ, x2, x3, post => (((σ 111 16) ≤ x3 → (∃ n, wl_X10_run_202 n σ x2 0 post)) ∧ (¬ ((σ 111 16) ≤ x3) → (vp_in x3 20 ∧ (vp_in x3 20 ∧ ∀ s202, s202 = io_up σ 128 (x3).toNatClampNeg ((σ 127 (x3).toNatClampNeg)) → wl_X10_run_174 n s202 x2 (x3 + 1) post))))
def wj_X10_run_129 (σ : io_M) (y0 : Int32) (post : Int32 → io_M → Prop) : Prop := (∀ s301, s301 = io_up σ 111 36 y0 → (((s301 111 48) = 0 → (∃ n, wl_X10_run_174 n s301 (s301 111 46) 0 post)) ∧ (¬ ((s301 111 48) = 0) → (((s301 111 48) = 1 → (∃ n, wl_X10_run_174 n s301 3 0 post)) ∧ (¬ ((s301 111 48) = 1) → (((s301 111 48) = 2 → (∃ n, wl_X10_run_174 n s301 4 0 post)) ∧ (¬ ((s301 111 48) = 2) → (∃ n, wl_X10_run_174 n s301 5 0 post))))))))
def wj_X10_run_95 (σ : io_M) (y0 : Int32) (post : Int32 → io_M → Prop) : Prop := (∀ s401, s401 = io_up σ 111 37 y0 → (((s401 111 48) = 0 → wj_X10_run_129 s401 (s401 111 47) post) ∧ (¬ ((s401 111 48) = 0) → (((s401 111 48) = 3 → wj_X10_run_129 s401 0 post) ∧ (¬ ((s401 111 48) = 3) → wj_X10_run_129 s401 (s401 111 49) post)))))
def wl_X10_run_13 : Nat → io_M → Int32 → Int32 → (Int32 → io_M → Prop) → Prop
  | 0, _, _, _, _ => False
  | n + 1, σ, x1, x2, post => ((6 ≤ x2 → (∀ s502, s502 = io_up σ 111 16 0 → (∀ s504, s504 = io_up s502 111 28 0 → (∀ s506, s506 = io_up s504 111 33 0 → (∀ s508, s508 = io_up s506 111 35 0 → (∀ s510, s510 = io_up s508 111 48 0 → (∀ s512, s512 = io_up s510 111 38 0 → (wp_X10_begin s512 x1 (fun s515 => (wp_X10_work s515 (fun s517 => (((s517 111 48) = 1 → wj_X10_run_95 s517 (s517 111 50) post) ∧ (¬ ((s517 111 48) = 1) → wj_X10_run_95 s517 (-1) post))))))))))))) ∧ (¬ (6 ≤ x2) → (vp_in x2 6 ∧ ∀ s519, s519 = io_up σ 123 (x2).toNatClampNeg (0) → (vp_in x2 6 ∧ ∀ s521, s521 = io_up s519 122 (x2).toNatClampNeg (0) → wl_X10_run_13 n s521 x1 (x2 + 1) post))))
def wp_X10_run (σ : io_M) (p1 : Int32) (post : Int32 → io_M → Prop) : Prop := (wp_X10_isNode σ p1 (fun r2 s3 => ((r2 = 0 → post (-2) s3) ∧ (¬ (r2 = 0) → (∃ n, wl_X10_run_13 n s3 p1 0 post)))))
set_option maxHeartbeats 4000000 in
set_option maxRecDepth 100000 in
theorem io_c_X10_run (l : Launch) (D : va_G) (ca : Nat → ClassId) (ad : Nat → Nat) (A : Nat → Prop) (σ : io_M) (p1 : Int32) (post : Int32 → io_M → Prop) (hw : wp_X10_run σ p1 post) : Met l yX10_run (.code yX10_run cX10_run 5 (some .int) :: io_tb) (io_rm 7) (va_Pc [.ref (ad 111), .int p1] (io_W D ca ad A σ)) (va_Qi post (io_W D ca ad A) A) 0 0 A := by
  refine Met.ofW (cc := cX10_run) (maxL := 5) (ret := (some .int)) (by decide) rfl ?_
  intro p e s m args below meth c s₁ Bd hml hv
  obtain ⟨rfl, hW0⟩ := hv
  have Z := io_Z.start hW0
  have B : CallFix p m c cX10_run 5 s _ io_tb RX10 := ⟨Bd.exec, Bd.bytes, hml, findClass_of_methodNamed Bd.named, fun w hw => atoms_spec (ws := (.code yX10_run cX10_run 5 (some .int) :: io_tb)) Bd.pre w (List.mem_cons_of_mem _ hw)⟩
  have hr := Bd.returns
  have hlk := Bd.notSynchronized
  have hl := lv_entry ([.ref (ad 111), .int p1]) (n := 5) (Nat.le_of_ble_eq_true rfl)
  rw [lg_entry_eq]
  generalize (lg_sl ([.ref (ad 111), .int p1]) ++ List.replicate (5 - (lg_sl ([.ref (ad 111), .int p1])).length) Slot.unset).toArray = ls at hl ⊢
  have hl : lv_has ls 5 [(0, .ref (ad 111)), (1, .int p1)] := hl
  show W p l e (io_rm 7) s m _ below meth c s.heap [] 0 0 _ (F0 m 0 ls [])
  have LP202 : ∀ (n : Nat) (σ : io_M) (x2 : Int32) (x3 : Int32), wl_X10_run_202 n σ x2 x3 post → ∀ (H : Heap) (locs : List Loc), io_Z D ca ad A s H locs σ → ∀ ls : Array Slot, lv_has ls 5 [(0, .ref (ad 111)), (2, .int x2), (3, .int x3)] → W p l e (io_rm 7) s m ([.ref (ad 111), .int p1] : List Value).toArray below meth c H locs 0 0 (MQ below (va_Qi post (io_W D ca ad A) A) ([.ref (ad 111), .int p1] : List Value).toArray s 0 0 A) (F0 m 202 ls []) := by
    intro n
    induction n with
    | zero =>
      intro σ x2 x3 hw
      exact hw.elim
    | succ n IH202 =>
      intro σ x2 x3 hw H locs Z ls hl
      unfold wl_X10_run_202 at hw
      refine lv_iload_n B.1 B.2.1 dX10_run_202 rfl (lv_at hl 2 rfl) ?_
      refine lv_aload_n B.1 B.2.1 dX10_run_203 rfl (lv_at hl 0 rfl) ?_
      refine io_g_10_16 B Z dX10_run_204 ?_
      refine lv_icmp_ge (tgt := 247) B.1 B.2.1 dX10_run_207 (by decide) (fun k101 => ?_) (fun k101 => ?_)
      · have hw := hw.1 k101
        refine lv_iload_n B.1 B.2.1 dX10_run_247 rfl (lv_at hl 1 rfl) ?_
        exact io_ret_i B Z hr hlk hw dX10_run_248
      · have hw := hw.2 k101
        refine lv_aload_n B.1 B.2.1 dX10_run_210 rfl (lv_at hl 0 rfl) ?_
        refine io_g_10_20 B Z dX10_run_211 ?_
        refine lv_iload_n B.1 B.2.1 dX10_run_214 rfl (lv_at hl 2 rfl) ?_
        refine io_iald B Z 127 (by decide) io_e_127 hw.1 dX10_run_215 ?_
        have hw := hw.2
        refine lv_if_ne (tgt := 227) B.1 B.2.1 dX10_run_216 (by decide) (fun k102 => ?_) (fun k102 => ?_)
        · have hw := hw.2 k102
          refine lv_iconst (v := 1) B.1 B.2.1 dX10_run_227 (by decide) ?_
          refine lv_goto (tgt := 232) B.1 B.2.1 dX10_run_228 (by decide) ?_
          refine lv_istore (lv' := [(4, .int 1), (0, .ref (ad 111)), (2, .int x2), (3, .int x3)]) B.1 B.2.1 dX10_run_232 hl (by decide) rfl (fun ls hl => ?_)
          refine lv_aload_n B.1 B.2.1 dX10_run_234 rfl (lv_at hl 1 rfl) ?_
          refine io_g_10_20 B Z dX10_run_235 ?_
          refine lv_iload_n B.1 B.2.1 dX10_run_238 rfl (lv_at hl 3 rfl) ?_
          refine lv_iconst (v := 2) B.1 B.2.1 dX10_run_239 (by decide) ?_
          refine io_iast B Z 127 (by decide) io_e_127 hw.1 dX10_run_240 (fun s103 H locs e104 Z => ?_)
          have hw := hw.2 s103 e104
          refine lv_iinc (v := (x3 + 1)) (lv' := [(3, .int (x3 + 1)), (4, .int 1), (0, .ref (ad 111)), (2, .int x2)]) B.1 B.2.1 dX10_run_241 hl (k := 3) rfl rfl (by decide) rfl (fun ls hl => ?_)
          refine lv_goto (tgt := 202) B.1 B.2.1 dX10_run_244 (by decide) ?_
          exact IH202 _ x2 (x3 + 1) hw _ _ Z _ (lv_sub (l' := [(0, .ref (ad 111)), (2, .int x2), (3, .int (x3 + 1))]) hl [2, 3, 0] rfl)
        · have hw := hw.1 k102
          refine lv_aload_n B.1 B.2.1 dX10_run_219 rfl (lv_at hl 0 rfl) ?_
          refine lv_iload_n B.1 B.2.1 dX10_run_220 rfl (lv_at hl 2 rfl) ?_
          refine io_call_i Z (io_runV (ci := 10) (k := 111) [.int x3] [] B Z (io_c_X10_flush l D ca ad A _ x3 _ hw) io_k_10_263 (io_hR (by decide) (by decide)) rfl (by decide) (io_e_111 _) rfl hl.1 (Nat.le_of_ble_eq_true rfl) dX10_run_221 ⟨Nat.le_refl _, Nat.le_refl _⟩) (fun r105 s106 H locs hw Z => ?_)
          obtain ⟨b107, hw⟩ := hw
          refine lv_if_eq (tgt := 231) B.1 B.2.1 dX10_run_224 (by decide) (fun k108 => ?_) (fun k108 => ?_)
          · have hw := hw.1 k108
            refine lv_iconst (v := 0) B.1 B.2.1 dX10_run_231 (by decide) ?_
            refine lv_istore (lv' := [(4, .int 0), (0, .ref (ad 111)), (2, .int x2), (3, .int x3)]) B.1 B.2.1 dX10_run_232 hl (by decide) rfl (fun ls hl => ?_)
            refine lv_aload_n B.1 B.2.1 dX10_run_234 rfl (lv_at hl 1 rfl) ?_
            refine io_g_10_20 B Z dX10_run_235 ?_
            refine lv_iload_n B.1 B.2.1 dX10_run_238 rfl (lv_at hl 3 rfl) ?_
            refine lv_iconst (v := 2) B.1 B.2.1 dX10_run_239 (by decide) ?_
            refine io_iast B Z 127 (by decide) io_e_127 hw.1 dX10_run_240 (fun s109 H locs e110 Z => ?_)
            have hw := hw.2 s109 e110
            refine lv_iinc (v := (x3 + 1)) (lv' := [(3, .int (x3 + 1)), (4, .int 0), (0, .ref (ad 111)), (2, .int x2)]) B.1 B.2.1 dX10_run_241 hl (k := 3) rfl rfl (by decide) rfl (fun ls hl => ?_)
            refine lv_goto (tgt := 202) B.1 B.2.1 dX10_run_244 (by decide) ?_
            exact IH202 _ x2 (x3 + 1) hw _ _ Z _ (lv_sub (l' := [(0, .ref (ad 111)), (2, .int x2), (3, .int (x3 + 1))]) hl [2, 3, 0] rfl)
          · have hw := hw.2 k108
            refine lv_iconst (v := 1) B.1 B.2.1 dX10_run_227 (by decide) ?_
            refine lv_goto (tgt := 232) B.1 B.2.1 dX10_run_228 (by decide) ?_
            refine lv_istore (lv' := [(4, .int 1), (0, .ref (ad 111)), (2, .int x2), (3, .int x3)]) B.1 B.2.1 dX10_run_232 hl (by decide) rfl (fun ls hl => ?_)
            refine lv_aload_n B.1 B.2.1 dX10_run_234 rfl (lv_at hl 1 rfl) ?_
            refine io_g_10_20 B Z dX10_run_235 ?_
            refine lv_iload_n B.1 B.2.1 dX10_run_238 rfl (lv_at hl 3 rfl) ?_
            refine lv_iconst (v := 2) B.1 B.2.1 dX10_run_239 (by decide) ?_
            refine io_iast B Z 127 (by decide) io_e_127 hw.1 dX10_run_240 (fun s111 H locs e112 Z => ?_)
            have hw := hw.2 s111 e112
            refine lv_iinc (v := (x3 + 1)) (lv' := [(3, .int (x3 + 1)), (4, .int 1), (0, .ref (ad 111)), (2, .int x2)]) B.1 B.2.1 dX10_run_241 hl (k := 3) rfl rfl (by decide) rfl (fun ls hl => ?_)
            refine lv_goto (tgt := 202) B.1 B.2.1 dX10_run_244 (by decide) ?_
            exact IH202 _ x2 (x3 + 1) hw _ _ Z _ (lv_sub (l' := [(0, .ref (ad 111)), (2, .int x2), (3, .int (x3 + 1))]) hl [2, 3, 0] rfl)
  have LP174 : ∀ (n : Nat) (σ : io_M) (x2 : Int32) (x3 : Int32), wl_X10_run_174 n σ x2 x3 post → ∀ (H : Heap) (locs : List Loc), io_Z D ca ad A s H locs σ → ∀ ls : Array Slot, lv_has ls 5 [(0, .ref (ad 111)), (2, .int x2), (3, .int x3)] → W p l e (io_rm 7) s m ([.ref (ad 111), .int p1] : List Value).toArray below meth c H locs 0 0 (MQ below (va_Qi post (io_W D ca ad A) A) ([.ref (ad 111), .int p1] : List Value).toArray s 0 0 A) (F0 m 174 ls []) := by
    intro n
    induction n with
    | zero =>
      intro σ x2 x3 hw
      exact hw.elim
    | succ n IH174 =>
      intro σ x2 x3 hw H locs Z ls hl
      unfold wl_X10_run_174 at hw
      refine lv_iload_n B.1 B.2.1 dX10_run_174 rfl (lv_at hl 2 rfl) ?_
      refine lv_aload_n B.1 B.2.1 dX10_run_175 rfl (lv_at hl 0 rfl) ?_
      refine io_g_10_16 B Z dX10_run_176 ?_
      refine lv_icmp_ge (tgt := 200) B.1 B.2.1 dX10_run_179 (by decide) (fun k201 => ?_) (fun k201 => ?_)
      · have hw := hw.1 k201
        refine lv_iconst (v := 0) B.1 B.2.1 dX10_run_200 (by decide) ?_
        refine lv_istore_n (lv' := [(3, .int 0), (0, .ref (ad 111)), (2, .int x2)]) B.1 B.2.1 dX10_run_201 rfl hl (by decide) rfl (fun ls hl => ?_)
        obtain ⟨n, hw⟩ := hw
        exact LP202 n _ x2 0 hw _ _ Z _ (lv_sub (l' := [(0, .ref (ad 111)), (2, .int x2), (3, .int 0)]) hl [1, 2, 0] rfl)
      · have hw := hw.2 k201
        refine lv_aload_n B.1 B.2.1 dX10_run_182 rfl (lv_at hl 0 rfl) ?_
        refine io_g_10_21 B Z dX10_run_183 ?_
        refine lv_iload_n B.1 B.2.1 dX10_run_186 rfl (lv_at hl 2 rfl) ?_
        refine lv_aload_n B.1 B.2.1 dX10_run_187 rfl (lv_at hl 0 rfl) ?_
        refine io_g_10_20 B Z dX10_run_188 ?_
        refine lv_iload_n B.1 B.2.1 dX10_run_191 rfl (lv_at hl 2 rfl) ?_
        refine io_iald B Z 127 (by decide) io_e_127 hw.1 dX10_run_192 ?_
        have hw := hw.2
        refine io_iast B Z 128 (by decide) io_e_128 hw.1 dX10_run_193 (fun s202 H locs e203 Z => ?_)
        have hw := hw.2 s202 e203
        refine lv_iinc (v := (x3 + 1)) (lv' := [(3, .int (x3 + 1)), (0, .ref (ad 111)), (2, .int x2)]) B.1 B.2.1 dX10_run_194 hl (k := 2) rfl rfl (by decide) rfl (fun ls hl => ?_)
        refine lv_goto (tgt := 174) B.1 B.2.1 dX10_run_197 (by decide) ?_
        exact IH174 _ x2 (x3 + 1) hw _ _ Z _ (lv_sub (l' := [(0, .ref (ad 111)), (2, .int x2), (3, .int (x3 + 1))]) hl [1, 2, 0] rfl)
  have JN129 : ∀ (σ : io_M) (y0 : Int32), wj_X10_run_129 σ y0 post → ∀ (H : Heap) (locs : List Loc), io_Z D ca ad A s H locs σ → ∀ ls : Array Slot, lv_has ls 5 [(0, .ref (ad 111))] → W p l e (io_rm 7) s m ([.ref (ad 111), .int p1] : List Value).toArray below meth c H locs 0 0 (MQ below (va_Qi post (io_W D ca ad A) A) ([.ref (ad 111), .int p1] : List Value).toArray s 0 0 A) (F0 m 129 ls [.int y0, .ref (ad 111)]) := by
    intro σ y0 hw H locs Z ls hl
    unfold wj_X10_run_129 at hw
    refine io_p_10_36 B Z dX10_run_129 (fun s301 H locs e302 Z => ?_)
    have hw := hw s301 e302
    refine lv_aload_n B.1 B.2.1 dX10_run_132 rfl (lv_at hl 0 rfl) ?_
    refine io_g_10_48 B Z dX10_run_133 ?_
    refine lv_if_ne (tgt := 146) B.1 B.2.1 dX10_run_136 (by decide) (fun k303 => ?_) (fun k303 => ?_)
    · have hw := hw.2 k303
      refine lv_aload_n B.1 B.2.1 dX10_run_146 rfl (lv_at hl 0 rfl) ?_
      refine io_g_10_48 B Z dX10_run_147 ?_
      refine lv_iconst (v := 1) B.1 B.2.1 dX10_run_150 (by decide) ?_
      refine lv_icmp_ne (tgt := 158) B.1 B.2.1 dX10_run_151 (by decide) (fun k304 => ?_) (fun k304 => ?_)
      · have hw := hw.2 k304
        refine lv_aload_n B.1 B.2.1 dX10_run_158 rfl (lv_at hl 0 rfl) ?_
        refine io_g_10_48 B Z dX10_run_159 ?_
        refine lv_iconst (v := 2) B.1 B.2.1 dX10_run_162 (by decide) ?_
        refine lv_icmp_ne (tgt := 170) B.1 B.2.1 dX10_run_163 (by decide) (fun k305 => ?_) (fun k305 => ?_)
        · have hw := hw.2 k305
          refine lv_iconst (v := 5) B.1 B.2.1 dX10_run_170 (by decide) ?_
          refine lv_istore_n (lv' := [(2, .int 5), (0, .ref (ad 111))]) B.1 B.2.1 dX10_run_171 rfl hl (by decide) rfl (fun ls hl => ?_)
          refine lv_iconst (v := 0) B.1 B.2.1 dX10_run_172 (by decide) ?_
          refine lv_istore_n (lv' := [(3, .int 0), (2, .int 5), (0, .ref (ad 111))]) B.1 B.2.1 dX10_run_173 rfl hl (by decide) rfl (fun ls hl => ?_)
          obtain ⟨n, hw⟩ := hw
          exact LP174 n _ 5 0 hw _ _ Z _ (lv_sub (l' := [(0, .ref (ad 111)), (2, .int 5), (3, .int 0)]) hl [2, 1, 0] rfl)
        · have hw := hw.1 k305
          refine lv_iconst (v := 4) B.1 B.2.1 dX10_run_166 (by decide) ?_
          refine lv_goto (tgt := 171) B.1 B.2.1 dX10_run_167 (by decide) ?_
          refine lv_istore_n (lv' := [(2, .int 4), (0, .ref (ad 111))]) B.1 B.2.1 dX10_run_171 rfl hl (by decide) rfl (fun ls hl => ?_)
          refine lv_iconst (v := 0) B.1 B.2.1 dX10_run_172 (by decide) ?_
          refine lv_istore_n (lv' := [(3, .int 0), (2, .int 4), (0, .ref (ad 111))]) B.1 B.2.1 dX10_run_173 rfl hl (by decide) rfl (fun ls hl => ?_)
          obtain ⟨n, hw⟩ := hw
          exact LP174 n _ 4 0 hw _ _ Z _ (lv_sub (l' := [(0, .ref (ad 111)), (2, .int 4), (3, .int 0)]) hl [2, 1, 0] rfl)
      · have hw := hw.1 k304
        refine lv_iconst (v := 3) B.1 B.2.1 dX10_run_154 (by decide) ?_
        refine lv_goto (tgt := 171) B.1 B.2.1 dX10_run_155 (by decide) ?_
        refine lv_istore_n (lv' := [(2, .int 3), (0, .ref (ad 111))]) B.1 B.2.1 dX10_run_171 rfl hl (by decide) rfl (fun ls hl => ?_)
        refine lv_iconst (v := 0) B.1 B.2.1 dX10_run_172 (by decide) ?_
        refine lv_istore_n (lv' := [(3, .int 0), (2, .int 3), (0, .ref (ad 111))]) B.1 B.2.1 dX10_run_173 rfl hl (by decide) rfl (fun ls hl => ?_)
        obtain ⟨n, hw⟩ := hw
        exact LP174 n _ 3 0 hw _ _ Z _ (lv_sub (l' := [(0, .ref (ad 111)), (2, .int 3), (3, .int 0)]) hl [2, 1, 0] rfl)
    · have hw := hw.1 k303
      refine lv_aload_n B.1 B.2.1 dX10_run_139 rfl (lv_at hl 0 rfl) ?_
      refine io_g_10_46 B Z dX10_run_140 ?_
      refine lv_goto (tgt := 171) B.1 B.2.1 dX10_run_143 (by decide) ?_
      refine lv_istore_n (lv' := [(2, .int (s301 111 46)), (0, .ref (ad 111))]) B.1 B.2.1 dX10_run_171 rfl hl (by decide) rfl (fun ls hl => ?_)
      refine lv_iconst (v := 0) B.1 B.2.1 dX10_run_172 (by decide) ?_
      refine lv_istore_n (lv' := [(3, .int 0), (2, .int (s301 111 46)), (0, .ref (ad 111))]) B.1 B.2.1 dX10_run_173 rfl hl (by decide) rfl (fun ls hl => ?_)
      obtain ⟨n, hw⟩ := hw
      exact LP174 n _ (s301 111 46) 0 hw _ _ Z _ (lv_sub (l' := [(0, .ref (ad 111)), (2, .int (s301 111 46)), (3, .int 0)]) hl [2, 1, 0] rfl)
  have JN95 : ∀ (σ : io_M) (y0 : Int32), wj_X10_run_95 σ y0 post → ∀ (H : Heap) (locs : List Loc), io_Z D ca ad A s H locs σ → ∀ ls : Array Slot, lv_has ls 5 [(0, .ref (ad 111))] → W p l e (io_rm 7) s m ([.ref (ad 111), .int p1] : List Value).toArray below meth c H locs 0 0 (MQ below (va_Qi post (io_W D ca ad A) A) ([.ref (ad 111), .int p1] : List Value).toArray s 0 0 A) (F0 m 95 ls [.int y0, .ref (ad 111)]) := by
    intro σ y0 hw H locs Z ls hl
    unfold wj_X10_run_95 at hw
    refine io_p_10_37 B Z dX10_run_95 (fun s401 H locs e402 Z => ?_)
    have hw := hw s401 e402
    refine lv_aload_n B.1 B.2.1 dX10_run_98 rfl (lv_at hl 0 rfl) ?_
    refine lv_aload_n B.1 B.2.1 dX10_run_99 rfl (lv_at hl 0 rfl) ?_
    refine io_g_10_48 B Z dX10_run_100 ?_
    refine lv_if_ne (tgt := 113) B.1 B.2.1 dX10_run_103 (by decide) (fun k403 => ?_) (fun k403 => ?_)
    · have hw := hw.2 k403
      refine lv_aload_n B.1 B.2.1 dX10_run_113 rfl (lv_at hl 0 rfl) ?_
      refine io_g_10_48 B Z dX10_run_114 ?_
      refine lv_iconst (v := 3) B.1 B.2.1 dX10_run_117 (by decide) ?_
      refine lv_icmp_ne (tgt := 125) B.1 B.2.1 dX10_run_118 (by decide) (fun k404 => ?_) (fun k404 => ?_)
      · have hw := hw.2 k404
        refine lv_aload_n B.1 B.2.1 dX10_run_125 rfl (lv_at hl 0 rfl) ?_
        refine io_g_10_49 B Z dX10_run_126 ?_
        exact JN129 _ (s401 111 49) hw _ _ Z _ (lv_sub (l' := [(0, .ref (ad 111))]) hl [0] rfl)
      · have hw := hw.1 k404
        refine lv_iconst (v := 0) B.1 B.2.1 dX10_run_121 (by decide) ?_
        refine lv_goto (tgt := 129) B.1 B.2.1 dX10_run_122 (by decide) ?_
        exact JN129 _ 0 hw _ _ Z _ (lv_sub (l' := [(0, .ref (ad 111))]) hl [0] rfl)
    · have hw := hw.1 k403
      refine lv_aload_n B.1 B.2.1 dX10_run_106 rfl (lv_at hl 0 rfl) ?_
      refine io_g_10_47 B Z dX10_run_107 ?_
      refine lv_goto (tgt := 129) B.1 B.2.1 dX10_run_110 (by decide) ?_
      exact JN129 _ (s401 111 47) hw _ _ Z _ (lv_sub (l' := [(0, .ref (ad 111))]) hl [0] rfl)
  have LP13 : ∀ (n : Nat) (σ : io_M) (x1 : Int32) (x2 : Int32), wl_X10_run_13 n σ x1 x2 post → ∀ (H : Heap) (locs : List Loc), io_Z D ca ad A s H locs σ → ∀ ls : Array Slot, lv_has ls 5 [(0, .ref (ad 111)), (1, .int x1), (2, .int x2)] → W p l e (io_rm 7) s m ([.ref (ad 111), .int p1] : List Value).toArray below meth c H locs 0 0 (MQ below (va_Qi post (io_W D ca ad A) A) ([.ref (ad 111), .int p1] : List Value).toArray s 0 0 A) (F0 m 13 ls []) := by
    intro n
    induction n with
    | zero =>
      intro σ x1 x2 hw
      exact hw.elim
    | succ n IH13 =>
      intro σ x1 x2 hw H locs Z ls hl
      unfold wl_X10_run_13 at hw
      refine lv_iload_n B.1 B.2.1 dX10_run_13 rfl (lv_at hl 2 rfl) ?_
      refine lv_bipush (v := 6) B.1 B.2.1 dX10_run_14 (by decide) ?_
      refine lv_icmp_ge (tgt := 39) B.1 B.2.1 dX10_run_16 (by decide) (fun k501 => ?_) (fun k501 => ?_)
      · have hw := hw.1 k501
        refine lv_aload_n B.1 B.2.1 dX10_run_39 rfl (lv_at hl 0 rfl) ?_
        refine lv_iconst (v := 0) B.1 B.2.1 dX10_run_40 (by decide) ?_
        refine io_p_10_16 B Z dX10_run_41 (fun s502 H locs e503 Z => ?_)
        have hw := hw s502 e503
        refine lv_aload_n B.1 B.2.1 dX10_run_44 rfl (lv_at hl 0 rfl) ?_
        refine lv_iconst (v := 0) B.1 B.2.1 dX10_run_45 (by decide) ?_
        refine io_p_10_28 B Z dX10_run_46 (fun s504 H locs e505 Z => ?_)
        have hw := hw s504 e505
        refine lv_aload_n B.1 B.2.1 dX10_run_49 rfl (lv_at hl 0 rfl) ?_
        refine lv_iconst (v := 0) B.1 B.2.1 dX10_run_50 (by decide) ?_
        refine io_p_10_33 B Z dX10_run_51 (fun s506 H locs e507 Z => ?_)
        have hw := hw s506 e507
        refine lv_aload_n B.1 B.2.1 dX10_run_54 rfl (lv_at hl 0 rfl) ?_
        refine lv_iconst (v := 0) B.1 B.2.1 dX10_run_55 (by decide) ?_
        refine io_p_10_35 B Z dX10_run_56 (fun s508 H locs e509 Z => ?_)
        have hw := hw s508 e509
        refine lv_aload_n B.1 B.2.1 dX10_run_59 rfl (lv_at hl 0 rfl) ?_
        refine lv_iconst (v := 0) B.1 B.2.1 dX10_run_60 (by decide) ?_
        refine io_p_10_48 B Z dX10_run_61 (fun s510 H locs e511 Z => ?_)
        have hw := hw s510 e511
        refine lv_aload_n B.1 B.2.1 dX10_run_64 rfl (lv_at hl 0 rfl) ?_
        refine lv_iconst (v := 0) B.1 B.2.1 dX10_run_65 (by decide) ?_
        refine io_p_10_38 B Z dX10_run_66 (fun s512 H locs e513 Z => ?_)
        have hw := hw s512 e513
        refine lv_aload_n B.1 B.2.1 dX10_run_69 rfl (lv_at hl 0 rfl) ?_
        refine lv_iload_n B.1 B.2.1 dX10_run_70 rfl (lv_at hl 1 rfl) ?_
        refine io_call_v Z (io_runV (ci := 10) (k := 111) [.int x1] [] B Z (io_c_X10_begin l D ca ad A _ x1 _ hw) io_k_10_209 (io_hR (by decide) (by decide)) rfl (by decide) (io_e_111 _) rfl hl.1 (Nat.le_of_ble_eq_true rfl) dX10_run_71 ⟨Nat.le_refl _, Nat.le_refl _⟩) (fun s515 H locs hw Z => ?_)
        refine lv_aload_n B.1 B.2.1 dX10_run_74 rfl (lv_at hl 0 rfl) ?_
        refine io_call_v Z (io_runV (ci := 10) (k := 111) [] [] B Z (io_c_X10_work l D ca ad A _ _ hw) io_k_10_281 (io_hR (by decide) (by decide)) rfl (by decide) (io_e_111 _) rfl hl.1 (Nat.le_of_ble_eq_true rfl) dX10_run_75 ⟨Nat.le_refl _, Nat.le_refl _⟩) (fun s517 H locs hw Z => ?_)
        refine lv_aload_n B.1 B.2.1 dX10_run_78 rfl (lv_at hl 0 rfl) ?_
        refine lv_aload_n B.1 B.2.1 dX10_run_79 rfl (lv_at hl 0 rfl) ?_
        refine io_g_10_48 B Z dX10_run_80 ?_
        refine lv_iconst (v := 1) B.1 B.2.1 dX10_run_83 (by decide) ?_
        refine lv_icmp_ne (tgt := 94) B.1 B.2.1 dX10_run_84 (by decide) (fun k518 => ?_) (fun k518 => ?_)
        · have hw := hw.2 k518
          refine lv_iconst (v := (-1)) B.1 B.2.1 dX10_run_94 (by decide) ?_
          exact JN95 _ (-1) hw _ _ Z _ (lv_sub (l' := [(0, .ref (ad 111))]) hl [0] rfl)
        · have hw := hw.1 k518
          refine lv_aload_n B.1 B.2.1 dX10_run_87 rfl (lv_at hl 0 rfl) ?_
          refine io_g_10_50 B Z dX10_run_88 ?_
          refine lv_goto (tgt := 95) B.1 B.2.1 dX10_run_91 (by decide) ?_
          exact JN95 _ (s517 111 50) hw _ _ Z _ (lv_sub (l' := [(0, .ref (ad 111))]) hl [0] rfl)
      · have hw := hw.2 k501
        refine lv_aload_n B.1 B.2.1 dX10_run_19 rfl (lv_at hl 0 rfl) ?_
        refine io_g_10_15 B Z dX10_run_20 ?_
        refine lv_iload_n B.1 B.2.1 dX10_run_23 rfl (lv_at hl 2 rfl) ?_
        refine lv_iconst (v := 0) B.1 B.2.1 dX10_run_24 (by decide) ?_
        refine io_iast B Z 123 (by decide) io_e_123 hw.1 dX10_run_25 (fun s519 H locs e520 Z => ?_)
        have hw := hw.2 s519 e520
        refine lv_aload_n B.1 B.2.1 dX10_run_26 rfl (lv_at hl 0 rfl) ?_
        refine io_g_10_14 B Z dX10_run_27 ?_
        refine lv_iload_n B.1 B.2.1 dX10_run_30 rfl (lv_at hl 2 rfl) ?_
        refine lv_iconst (v := 0) B.1 B.2.1 dX10_run_31 (by decide) ?_
        refine io_iast B Z 122 (by decide) io_e_122 hw.1 dX10_run_32 (fun s521 H locs e522 Z => ?_)
        have hw := hw.2 s521 e522
        refine lv_iinc (v := (x2 + 1)) (lv' := [(2, .int (x2 + 1)), (0, .ref (ad 111)), (1, .int x1)]) B.1 B.2.1 dX10_run_33 hl (k := 2) rfl rfl (by decide) rfl (fun ls hl => ?_)
        refine lv_goto (tgt := 13) B.1 B.2.1 dX10_run_36 (by decide) ?_
        exact IH13 _ x1 (x2 + 1) hw _ _ Z _ (lv_sub (l' := [(0, .ref (ad 111)), (1, .int x1), (2, .int (x2 + 1))]) hl [1, 2, 0] rfl)
  unfold wp_X10_run at hw
  refine lv_aload_n B.1 B.2.1 dX10_run_0 rfl (lv_at hl 0 rfl) ?_
  refine lv_iload_n B.1 B.2.1 dX10_run_1 rfl (lv_at hl 1 rfl) ?_
  refine io_call_i Z (io_runV (ci := 10) (k := 111) [.int p1] [] B Z (io_c_X10_isNode l D ca ad A _ p1 _ hw) io_k_10_144 (io_hR (by decide) (by decide)) rfl (by decide) (io_e_111 _) rfl hl.1 (Nat.le_of_ble_eq_true rfl) dX10_run_2 ⟨Nat.le_refl _, Nat.le_refl _⟩) (fun r2 s3 H locs hw Z => ?_)
  obtain ⟨b4, hw⟩ := hw
  refine lv_if_ne (tgt := 11) B.1 B.2.1 dX10_run_5 (by decide) (fun k5 => ?_) (fun k5 => ?_)
  · have hw := hw.2 k5
    refine lv_iconst (v := 0) B.1 B.2.1 dX10_run_11 (by decide) ?_
    refine lv_istore_n (lv' := [(2, .int 0), (0, .ref (ad 111)), (1, .int p1)]) B.1 B.2.1 dX10_run_12 rfl hl (by decide) rfl (fun ls hl => ?_)
    obtain ⟨n, hw⟩ := hw
    exact LP13 n _ p1 0 hw _ _ Z _ (lv_sub (l' := [(0, .ref (ad 111)), (1, .int p1), (2, .int 0)]) hl [1, 2, 0] rfl)
  · have hw := hw.1 k5
    refine lv_bipush (v := (-2)) B.1 B.2.1 dX10_run_8 (by decide) ?_
    exact io_ret_i B Z hr hlk hw dX10_run_10
def wp_X10_value (σ : io_M) (post : Int32 → io_M → Prop) : Prop := post (σ 111 36) σ
set_option maxHeartbeats 4000000 in
set_option maxRecDepth 100000 in
theorem io_c_X10_value (l : Launch) (D : va_G) (ca : Nat → ClassId) (ad : Nat → Nat) (A : Nat → Prop) (σ : io_M) (post : Int32 → io_M → Prop) (hw : wp_X10_value σ post) : Met l yX10_value (.code yX10_value cX10_value 1 (some .int) :: io_tb) (io_rm 0) (va_Pc [.ref (ad 111)] (io_W D ca ad A σ)) (va_Qi post (io_W D ca ad A) A) 0 0 A := by
  refine Met.ofW (cc := cX10_value) (maxL := 1) (ret := (some .int)) (by decide) rfl ?_
  intro p e s m args below meth c s₁ Bd hml hv
  obtain ⟨rfl, hW0⟩ := hv
  have Z := io_Z.start hW0
  have B : CallFix p m c cX10_value 1 s _ io_tb RX10 := ⟨Bd.exec, Bd.bytes, hml, findClass_of_methodNamed Bd.named, fun w hw => atoms_spec (ws := (.code yX10_value cX10_value 1 (some .int) :: io_tb)) Bd.pre w (List.mem_cons_of_mem _ hw)⟩
  have hr := Bd.returns
  have hlk := Bd.notSynchronized
  have hl := lv_entry ([.ref (ad 111)]) (n := 1) (Nat.le_of_ble_eq_true rfl)
  rw [lg_entry_eq]
  generalize (lg_sl ([.ref (ad 111)]) ++ List.replicate (1 - (lg_sl ([.ref (ad 111)])).length) Slot.unset).toArray = ls at hl ⊢
  have hl : lv_has ls 1 [(0, .ref (ad 111))] := hl
  show W p l e (io_rm 0) s m _ below meth c s.heap [] 0 0 _ (F0 m 0 ls [])
  unfold wp_X10_value at hw
  refine lv_aload_n B.1 B.2.1 dX10_value_0 rfl (lv_at hl 0 rfl) ?_
  refine io_g_10_36 B Z dX10_value_1 ?_
  exact io_ret_i B Z hr hlk hw dX10_value_4
def wp_X10_where (σ : io_M) (post : Int32 → io_M → Prop) : Prop := post (σ 111 37) σ
set_option maxHeartbeats 4000000 in
set_option maxRecDepth 100000 in
theorem io_c_X10_where (l : Launch) (D : va_G) (ca : Nat → ClassId) (ad : Nat → Nat) (A : Nat → Prop) (σ : io_M) (post : Int32 → io_M → Prop) (hw : wp_X10_where σ post) : Met l yX10_where (.code yX10_where cX10_where 1 (some .int) :: io_tb) (io_rm 0) (va_Pc [.ref (ad 111)] (io_W D ca ad A σ)) (va_Qi post (io_W D ca ad A) A) 0 0 A := by
  refine Met.ofW (cc := cX10_where) (maxL := 1) (ret := (some .int)) (by decide) rfl ?_
  intro p e s m args below meth c s₁ Bd hml hv
  obtain ⟨rfl, hW0⟩ := hv
  have Z := io_Z.start hW0
  have B : CallFix p m c cX10_where 1 s _ io_tb RX10 := ⟨Bd.exec, Bd.bytes, hml, findClass_of_methodNamed Bd.named, fun w hw => atoms_spec (ws := (.code yX10_where cX10_where 1 (some .int) :: io_tb)) Bd.pre w (List.mem_cons_of_mem _ hw)⟩
  have hr := Bd.returns
  have hlk := Bd.notSynchronized
  have hl := lv_entry ([.ref (ad 111)]) (n := 1) (Nat.le_of_ble_eq_true rfl)
  rw [lg_entry_eq]
  generalize (lg_sl ([.ref (ad 111)]) ++ List.replicate (1 - (lg_sl ([.ref (ad 111)])).length) Slot.unset).toArray = ls at hl ⊢
  have hl : lv_has ls 1 [(0, .ref (ad 111))] := hl
  show W p l e (io_rm 0) s m _ below meth c s.heap [] 0 0 _ (F0 m 0 ls [])
  unfold wp_X10_where at hw
  refine lv_aload_n B.1 B.2.1 dX10_where_0 rfl (lv_at hl 0 rfl) ?_
  refine io_g_10_37 B Z dX10_where_1 ?_
  exact io_ret_i B Z hr hlk hw dX10_where_4
def wp_X10_worked (σ : io_M) (post : Int32 → io_M → Prop) : Prop := post (σ 111 35) σ
set_option maxHeartbeats 4000000 in
set_option maxRecDepth 100000 in
theorem io_c_X10_worked (l : Launch) (D : va_G) (ca : Nat → ClassId) (ad : Nat → Nat) (A : Nat → Prop) (σ : io_M) (post : Int32 → io_M → Prop) (hw : wp_X10_worked σ post) : Met l yX10_worked (.code yX10_worked cX10_worked 1 (some .int) :: io_tb) (io_rm 0) (va_Pc [.ref (ad 111)] (io_W D ca ad A σ)) (va_Qi post (io_W D ca ad A) A) 0 0 A := by
  refine Met.ofW (cc := cX10_worked) (maxL := 1) (ret := (some .int)) (by decide) rfl ?_
  intro p e s m args below meth c s₁ Bd hml hv
  obtain ⟨rfl, hW0⟩ := hv
  have Z := io_Z.start hW0
  have B : CallFix p m c cX10_worked 1 s _ io_tb RX10 := ⟨Bd.exec, Bd.bytes, hml, findClass_of_methodNamed Bd.named, fun w hw => atoms_spec (ws := (.code yX10_worked cX10_worked 1 (some .int) :: io_tb)) Bd.pre w (List.mem_cons_of_mem _ hw)⟩
  have hr := Bd.returns
  have hlk := Bd.notSynchronized
  have hl := lv_entry ([.ref (ad 111)]) (n := 1) (Nat.le_of_ble_eq_true rfl)
  rw [lg_entry_eq]
  generalize (lg_sl ([.ref (ad 111)]) ++ List.replicate (1 - (lg_sl ([.ref (ad 111)])).length) Slot.unset).toArray = ls at hl ⊢
  have hl : lv_has ls 1 [(0, .ref (ad 111))] := hl
  show W p l e (io_rm 0) s m _ below meth c s.heap [] 0 0 _ (F0 m 0 ls [])
  unfold wp_X10_worked at hw
  refine lv_aload_n B.1 B.2.1 dX10_worked_0 rfl (lv_at hl 0 rfl) ?_
  refine io_g_10_35 B Z dX10_worked_1 ?_
  exact io_ret_i B Z hr hlk hw dX10_worked_4
def wp_X10_order (σ : io_M) (p1 : Int32) (post : Int32 → io_M → Prop) : Prop := ((300 ≤ (σ 111 33) → (wp_X10_in σ p1 0 (300 - 1) (fun r3 s4 => ((r3 = 0 → post (-1) s4) ∧ (¬ (r3 = 0) → (vp_in p1 300 ∧ post (s4 139 (p1).toNatClampNeg) s4)))))) ∧ (¬ (300 ≤ (σ 111 33)) → (wp_X10_in σ p1 0 ((σ 111 33) - 1) (fun r7 s8 => ((r7 = 0 → post (-1) s8) ∧ (¬ (r7 = 0) → (vp_in p1 300 ∧ post (s8 139 (p1).toNatClampNeg) s8)))))))
set_option maxHeartbeats 4000000 in
set_option maxRecDepth 100000 in
theorem io_c_X10_order (l : Launch) (D : va_G) (ca : Nat → ClassId) (ad : Nat → Nat) (A : Nat → Prop) (σ : io_M) (p1 : Int32) (post : Int32 → io_M → Prop) (hw : wp_X10_order σ p1 post) : Met l yX10_order (.code yX10_order cX10_order 2 (some .int) :: io_tb) (io_rm 1) (va_Pc [.ref (ad 111), .int p1] (io_W D ca ad A σ)) (va_Qi post (io_W D ca ad A) A) 0 0 A := by
  refine Met.ofW (cc := cX10_order) (maxL := 2) (ret := (some .int)) (by decide) rfl ?_
  intro p e s m args below meth c s₁ Bd hml hv
  obtain ⟨rfl, hW0⟩ := hv
  have Z := io_Z.start hW0
  have B : CallFix p m c cX10_order 2 s _ io_tb RX10 := ⟨Bd.exec, Bd.bytes, hml, findClass_of_methodNamed Bd.named, fun w hw => atoms_spec (ws := (.code yX10_order cX10_order 2 (some .int) :: io_tb)) Bd.pre w (List.mem_cons_of_mem _ hw)⟩
  have hr := Bd.returns
  have hlk := Bd.notSynchronized
  have hl := lv_entry ([.ref (ad 111), .int p1]) (n := 2) (Nat.le_of_ble_eq_true rfl)
  rw [lg_entry_eq]
  generalize (lg_sl ([.ref (ad 111), .int p1]) ++ List.replicate (2 - (lg_sl ([.ref (ad 111), .int p1])).length) Slot.unset).toArray = ls at hl ⊢
  have hl : lv_has ls 2 [(0, .ref (ad 111)), (1, .int p1)] := hl
  show W p l e (io_rm 1) s m _ below meth c s.heap [] 0 0 _ (F0 m 0 ls [])
  unfold wp_X10_order at hw
  refine lv_iload_n B.1 B.2.1 dX10_order_0 rfl (lv_at hl 1 rfl) ?_
  refine lv_iconst (v := 0) B.1 B.2.1 dX10_order_1 (by decide) ?_
  refine lv_aload_n B.1 B.2.1 dX10_order_2 rfl (lv_at hl 0 rfl) ?_
  refine io_g_10_33 B Z dX10_order_3 ?_
  refine lv_sipush (v := 300) B.1 B.2.1 dX10_order_6 (by decide) ?_
  refine lv_icmp_ge (tgt := 19) B.1 B.2.1 dX10_order_9 (by decide) (fun k2 => ?_) (fun k2 => ?_)
  · have hw := hw.1 k2
    refine lv_sipush (v := 300) B.1 B.2.1 dX10_order_19 (by decide) ?_
    refine lv_iconst (v := 1) B.1 B.2.1 dX10_order_22 (by decide) ?_
    refine lv_isub B.1 B.2.1 dX10_order_23 ?_
    refine io_call_i Z (io_runS [.int p1, .int 0, .int (300 - 1)] [] B Z (io_c_X10_in l D ca ad A _ p1 0 (300 - 1) _ hw) io_k_10_127 (io_hR (by decide) (by decide)) rfl hl.1 (Nat.le_of_ble_eq_true rfl) dX10_order_24 ⟨Nat.le_refl _, Nat.le_refl _⟩) (fun r3 s4 H locs hw Z => ?_)
    obtain ⟨b5, hw⟩ := hw
    refine lv_if_eq (tgt := 39) B.1 B.2.1 dX10_order_27 (by decide) (fun k6 => ?_) (fun k6 => ?_)
    · have hw := hw.1 k6
      refine lv_iconst (v := (-1)) B.1 B.2.1 dX10_order_39 (by decide) ?_
      exact io_ret_i B Z hr hlk hw dX10_order_40
    · have hw := hw.2 k6
      refine lv_aload_n B.1 B.2.1 dX10_order_30 rfl (lv_at hl 0 rfl) ?_
      refine io_g_10_34 B Z dX10_order_31 ?_
      refine lv_iload_n B.1 B.2.1 dX10_order_34 rfl (lv_at hl 1 rfl) ?_
      refine io_iald B Z 139 (by decide) io_e_139 hw.1 dX10_order_35 ?_
      have hw := hw.2
      refine lv_goto (tgt := 40) B.1 B.2.1 dX10_order_36 (by decide) ?_
      exact io_ret_i B Z hr hlk hw dX10_order_40
  · have hw := hw.2 k2
    refine lv_aload_n B.1 B.2.1 dX10_order_12 rfl (lv_at hl 0 rfl) ?_
    refine io_g_10_33 B Z dX10_order_13 ?_
    refine lv_goto (tgt := 22) B.1 B.2.1 dX10_order_16 (by decide) ?_
    refine lv_iconst (v := 1) B.1 B.2.1 dX10_order_22 (by decide) ?_
    refine lv_isub B.1 B.2.1 dX10_order_23 ?_
    refine io_call_i Z (io_runS [.int p1, .int 0, .int ((σ 111 33) - 1)] [] B Z (io_c_X10_in l D ca ad A _ p1 0 ((σ 111 33) - 1) _ hw) io_k_10_127 (io_hR (by decide) (by decide)) rfl hl.1 (Nat.le_of_ble_eq_true rfl) dX10_order_24 ⟨Nat.le_refl _, Nat.le_refl _⟩) (fun r7 s8 H locs hw Z => ?_)
    obtain ⟨b9, hw⟩ := hw
    refine lv_if_eq (tgt := 39) B.1 B.2.1 dX10_order_27 (by decide) (fun k10 => ?_) (fun k10 => ?_)
    · have hw := hw.1 k10
      refine lv_iconst (v := (-1)) B.1 B.2.1 dX10_order_39 (by decide) ?_
      exact io_ret_i B Z hr hlk hw dX10_order_40
    · have hw := hw.2 k10
      refine lv_aload_n B.1 B.2.1 dX10_order_30 rfl (lv_at hl 0 rfl) ?_
      refine io_g_10_34 B Z dX10_order_31 ?_
      refine lv_iload_n B.1 B.2.1 dX10_order_34 rfl (lv_at hl 1 rfl) ?_
      refine io_iald B Z 139 (by decide) io_e_139 hw.1 dX10_order_35 ?_
      have hw := hw.2
      refine lv_goto (tgt := 40) B.1 B.2.1 dX10_order_36 (by decide) ?_
      exact io_ret_i B Z hr hlk hw dX10_order_40
def wp_X10_handle (σ : io_M) (p1 : Int32) (p2 : Int32) (post : Int32 → io_M → Prop) : Prop := (wp_X10_in σ p1 0 ((σ 111 16) - 1) (fun r2 s3 => ((r2 = 0 → post (-1) s3) ∧ (¬ (r2 = 0) → ((p2 = 0 → (vp_in p1 20 ∧ post (s3 124 (p1).toNatClampNeg) s3)) ∧ (¬ (p2 = 0) → ((p2 = 1 → (vp_in p1 20 ∧ post (s3 125 (p1).toNatClampNeg) s3)) ∧ (¬ (p2 = 1) → ((p2 = 2 → (vp_in p1 20 ∧ post (s3 128 (p1).toNatClampNeg) s3)) ∧ (¬ (p2 = 2) → ((p2 = 3 → (vp_in p1 20 ∧ post (s3 132 (p1).toNatClampNeg) s3)) ∧ (¬ (p2 = 3) → ((p2 = 4 → (vp_in p1 20 ∧ post (s3 133 (p1).toNatClampNeg) s3)) ∧ (¬ (p2 = 4) → ((p2 = 5 → (vp_in p1 20 ∧ post (s3 134 (p1).toNatClampNeg) s3)) ∧ (¬ (p2 = 5) → post (-2) s3))))))))))))))))
set_option maxHeartbeats 4000000 in
set_option maxRecDepth 100000 in
theorem io_c_X10_handle (l : Launch) (D : va_G) (ca : Nat → ClassId) (ad : Nat → Nat) (A : Nat → Prop) (σ : io_M) (p1 : Int32) (p2 : Int32) (post : Int32 → io_M → Prop) (hw : wp_X10_handle σ p1 p2 post) : Met l yX10_handle (.code yX10_handle cX10_handle 3 (some .int) :: io_tb) (io_rm 1) (va_Pc [.ref (ad 111), .int p1, .int p2] (io_W D ca ad A σ)) (va_Qi post (io_W D ca ad A) A) 0 0 A := by
  refine Met.ofW (cc := cX10_handle) (maxL := 3) (ret := (some .int)) (by decide) rfl ?_
  intro p e s m args below meth c s₁ Bd hml hv
  obtain ⟨rfl, hW0⟩ := hv
  have Z := io_Z.start hW0
  have B : CallFix p m c cX10_handle 3 s _ io_tb RX10 := ⟨Bd.exec, Bd.bytes, hml, findClass_of_methodNamed Bd.named, fun w hw => atoms_spec (ws := (.code yX10_handle cX10_handle 3 (some .int) :: io_tb)) Bd.pre w (List.mem_cons_of_mem _ hw)⟩
  have hr := Bd.returns
  have hlk := Bd.notSynchronized
  have hl := lv_entry ([.ref (ad 111), .int p1, .int p2]) (n := 3) (Nat.le_of_ble_eq_true rfl)
  rw [lg_entry_eq]
  generalize (lg_sl ([.ref (ad 111), .int p1, .int p2]) ++ List.replicate (3 - (lg_sl ([.ref (ad 111), .int p1, .int p2])).length) Slot.unset).toArray = ls at hl ⊢
  have hl : lv_has ls 3 [(0, .ref (ad 111)), (1, .int p1), (2, .int p2)] := hl
  show W p l e (io_rm 1) s m _ below meth c s.heap [] 0 0 _ (F0 m 0 ls [])
  unfold wp_X10_handle at hw
  refine lv_iload_n B.1 B.2.1 dX10_handle_0 rfl (lv_at hl 1 rfl) ?_
  refine lv_iconst (v := 0) B.1 B.2.1 dX10_handle_1 (by decide) ?_
  refine lv_aload_n B.1 B.2.1 dX10_handle_2 rfl (lv_at hl 0 rfl) ?_
  refine io_g_10_16 B Z dX10_handle_3 ?_
  refine lv_iconst (v := 1) B.1 B.2.1 dX10_handle_6 (by decide) ?_
  refine lv_isub B.1 B.2.1 dX10_handle_7 ?_
  refine io_call_i Z (io_runS [.int p1, .int 0, .int ((σ 111 16) - 1)] [] B Z (io_c_X10_in l D ca ad A _ p1 0 ((σ 111 16) - 1) _ hw) io_k_10_127 (io_hR (by decide) (by decide)) rfl hl.1 (Nat.le_of_ble_eq_true rfl) dX10_handle_8 ⟨Nat.le_refl _, Nat.le_refl _⟩) (fun r2 s3 H locs hw Z => ?_)
  obtain ⟨b4, hw⟩ := hw
  refine lv_if_ne (tgt := 16) B.1 B.2.1 dX10_handle_11 (by decide) (fun k5 => ?_) (fun k5 => ?_)
  · have hw := hw.2 k5
    refine lv_iload_n B.1 B.2.1 dX10_handle_16 rfl (lv_at hl 2 rfl) ?_
    rcases Classical.em (p2 = 0) with k6 | k6
    · have hw := hw.1 k6
      refine lv_tableIn (tgt := 56) (off := 39) B.1 B.2.1 dX10_handle_17 (by rw [k6]; decide) (by rw [k6]; decide) (by rw [k6]; decide) (by decide) ?_
      refine lv_aload_n B.1 B.2.1 dX10_handle_56 rfl (lv_at hl 0 rfl) ?_
      refine io_g_10_17 B Z dX10_handle_57 ?_
      refine lv_iload_n B.1 B.2.1 dX10_handle_60 rfl (lv_at hl 1 rfl) ?_
      refine io_iald B Z 124 (by decide) io_e_124 hw.1 dX10_handle_61 ?_
      have hw := hw.2
      exact io_ret_i B Z hr hlk hw dX10_handle_62
    have hw := hw.2 k6
    rcases Classical.em (p2 = 1) with k7 | k7
    · have hw := hw.1 k7
      refine lv_tableIn (tgt := 63) (off := 46) B.1 B.2.1 dX10_handle_17 (by rw [k7]; decide) (by rw [k7]; decide) (by rw [k7]; decide) (by decide) ?_
      refine lv_aload_n B.1 B.2.1 dX10_handle_63 rfl (lv_at hl 0 rfl) ?_
      refine io_g_10_18 B Z dX10_handle_64 ?_
      refine lv_iload_n B.1 B.2.1 dX10_handle_67 rfl (lv_at hl 1 rfl) ?_
      refine io_iald B Z 125 (by decide) io_e_125 hw.1 dX10_handle_68 ?_
      have hw := hw.2
      exact io_ret_i B Z hr hlk hw dX10_handle_69
    have hw := hw.2 k7
    rcases Classical.em (p2 = 2) with k8 | k8
    · have hw := hw.1 k8
      refine lv_tableIn (tgt := 70) (off := 53) B.1 B.2.1 dX10_handle_17 (by rw [k8]; decide) (by rw [k8]; decide) (by rw [k8]; decide) (by decide) ?_
      refine lv_aload_n B.1 B.2.1 dX10_handle_70 rfl (lv_at hl 0 rfl) ?_
      refine io_g_10_21 B Z dX10_handle_71 ?_
      refine lv_iload_n B.1 B.2.1 dX10_handle_74 rfl (lv_at hl 1 rfl) ?_
      refine io_iald B Z 128 (by decide) io_e_128 hw.1 dX10_handle_75 ?_
      have hw := hw.2
      exact io_ret_i B Z hr hlk hw dX10_handle_76
    have hw := hw.2 k8
    rcases Classical.em (p2 = 3) with k9 | k9
    · have hw := hw.1 k9
      refine lv_tableIn (tgt := 77) (off := 60) B.1 B.2.1 dX10_handle_17 (by rw [k9]; decide) (by rw [k9]; decide) (by rw [k9]; decide) (by decide) ?_
      refine lv_aload_n B.1 B.2.1 dX10_handle_77 rfl (lv_at hl 0 rfl) ?_
      refine io_g_10_25 B Z dX10_handle_78 ?_
      refine lv_iload_n B.1 B.2.1 dX10_handle_81 rfl (lv_at hl 1 rfl) ?_
      refine io_iald B Z 132 (by decide) io_e_132 hw.1 dX10_handle_82 ?_
      have hw := hw.2
      exact io_ret_i B Z hr hlk hw dX10_handle_83
    have hw := hw.2 k9
    rcases Classical.em (p2 = 4) with k10 | k10
    · have hw := hw.1 k10
      refine lv_tableIn (tgt := 84) (off := 67) B.1 B.2.1 dX10_handle_17 (by rw [k10]; decide) (by rw [k10]; decide) (by rw [k10]; decide) (by decide) ?_
      refine lv_aload_n B.1 B.2.1 dX10_handle_84 rfl (lv_at hl 0 rfl) ?_
      refine io_g_10_26 B Z dX10_handle_85 ?_
      refine lv_iload_n B.1 B.2.1 dX10_handle_88 rfl (lv_at hl 1 rfl) ?_
      refine io_iald B Z 133 (by decide) io_e_133 hw.1 dX10_handle_89 ?_
      have hw := hw.2
      exact io_ret_i B Z hr hlk hw dX10_handle_90
    have hw := hw.2 k10
    rcases Classical.em (p2 = 5) with k11 | k11
    · have hw := hw.1 k11
      refine lv_tableIn (tgt := 91) (off := 74) B.1 B.2.1 dX10_handle_17 (by rw [k11]; decide) (by rw [k11]; decide) (by rw [k11]; decide) (by decide) ?_
      refine lv_aload_n B.1 B.2.1 dX10_handle_91 rfl (lv_at hl 0 rfl) ?_
      refine io_g_10_27 B Z dX10_handle_92 ?_
      refine lv_iload_n B.1 B.2.1 dX10_handle_95 rfl (lv_at hl 1 rfl) ?_
      refine io_iald B Z 134 (by decide) io_e_134 hw.1 dX10_handle_96 ?_
      have hw := hw.2
      exact io_ret_i B Z hr hlk hw dX10_handle_97
    have hw := hw.2 k11
    refine io_tswE (tgt := 98) (fun z => (([0, 1, 2, 3, 4, 5] : List Int32).contains z) = true) B dX10_handle_17 (by decide) (by decide) (by decide) (by decide +kernel) (io_nc (List.forall_mem_cons.mpr ⟨fun q => k6 (q), (List.forall_mem_cons.mpr ⟨fun q => k7 (q), (List.forall_mem_cons.mpr ⟨fun q => k8 (q), (List.forall_mem_cons.mpr ⟨fun q => k9 (q), (List.forall_mem_cons.mpr ⟨fun q => k10 (q), (List.forall_mem_cons.mpr ⟨fun q => k11 (q), (fun _ h => absurd h List.not_mem_nil)⟩)⟩)⟩)⟩)⟩)⟩)) ?_
    refine lv_bipush (v := (-2)) B.1 B.2.1 dX10_handle_98 (by decide) ?_
    exact io_ret_i B Z hr hlk hw dX10_handle_100
  · have hw := hw.1 k5
    refine lv_iconst (v := (-1)) B.1 B.2.1 dX10_handle_14 (by decide) ?_
    exact io_ret_i B Z hr hlk hw dX10_handle_15
def wp_X10_content (σ : io_M) (p1 : Int32) (p2 : Int32) (post : Int32 → io_M → Prop) : Prop := (wp_X10_in σ p1 0 7 (fun r2 s3 => ((r2 = 0 → post (-2) s3) ∧ (¬ (r2 = 0) → (vp_in p1 8 ∧ (((s3 112 (p1).toNatClampNeg) = 0 → post (-1) s3) ∧ (¬ ((s3 112 (p1).toNatClampNeg) = 0) → (vp_in p1 8 ∧ (wp_X10_in s3 p2 0 ((s3 113 (p1).toNatClampNeg) - 1) (fun r7 s8 => ((r7 = 0 → post (-1) s8) ∧ (¬ (r7 = 0) → (vp_in ((40 * p1) + p2) 320 ∧ post ((s8 114 (((40 * p1) + p2)).toNatClampNeg) &&& 255) s8)))))))))))))
set_option maxHeartbeats 4000000 in
set_option maxRecDepth 100000 in
theorem io_c_X10_content (l : Launch) (D : va_G) (ca : Nat → ClassId) (ad : Nat → Nat) (A : Nat → Prop) (σ : io_M) (p1 : Int32) (p2 : Int32) (post : Int32 → io_M → Prop) (hw : wp_X10_content σ p1 p2 post) : Met l yX10_content (.code yX10_content cX10_content 3 (some .int) :: io_tb) (io_rm 1) (va_Pc [.ref (ad 111), .int p1, .int p2] (io_W D ca ad A σ)) (va_Qi post (io_W D ca ad A) A) 0 0 A := by
  refine Met.ofW (cc := cX10_content) (maxL := 3) (ret := (some .int)) (by decide) rfl ?_
  intro p e s m args below meth c s₁ Bd hml hv
  obtain ⟨rfl, hW0⟩ := hv
  have Z := io_Z.start hW0
  have B : CallFix p m c cX10_content 3 s _ io_tb RX10 := ⟨Bd.exec, Bd.bytes, hml, findClass_of_methodNamed Bd.named, fun w hw => atoms_spec (ws := (.code yX10_content cX10_content 3 (some .int) :: io_tb)) Bd.pre w (List.mem_cons_of_mem _ hw)⟩
  have hr := Bd.returns
  have hlk := Bd.notSynchronized
  have hl := lv_entry ([.ref (ad 111), .int p1, .int p2]) (n := 3) (Nat.le_of_ble_eq_true rfl)
  rw [lg_entry_eq]
  generalize (lg_sl ([.ref (ad 111), .int p1, .int p2]) ++ List.replicate (3 - (lg_sl ([.ref (ad 111), .int p1, .int p2])).length) Slot.unset).toArray = ls at hl ⊢
  have hl : lv_has ls 3 [(0, .ref (ad 111)), (1, .int p1), (2, .int p2)] := hl
  show W p l e (io_rm 1) s m _ below meth c s.heap [] 0 0 _ (F0 m 0 ls [])
  unfold wp_X10_content at hw
  refine lv_iload_n B.1 B.2.1 dX10_content_0 rfl (lv_at hl 1 rfl) ?_
  refine lv_iconst (v := 0) B.1 B.2.1 dX10_content_1 (by decide) ?_
  refine lv_bipush (v := 7) B.1 B.2.1 dX10_content_2 (by decide) ?_
  refine io_call_i Z (io_runS [.int p1, .int 0, .int 7] [] B Z (io_c_X10_in l D ca ad A _ p1 0 7 _ hw) io_k_10_127 (io_hR (by decide) (by decide)) rfl hl.1 (Nat.le_of_ble_eq_true rfl) dX10_content_4 ⟨Nat.le_refl _, Nat.le_refl _⟩) (fun r2 s3 H locs hw Z => ?_)
  obtain ⟨b4, hw⟩ := hw
  refine lv_if_ne (tgt := 13) B.1 B.2.1 dX10_content_7 (by decide) (fun k5 => ?_) (fun k5 => ?_)
  · have hw := hw.2 k5
    refine lv_aload_n B.1 B.2.1 dX10_content_13 rfl (lv_at hl 0 rfl) ?_
    refine io_g_10_0 B Z dX10_content_14 ?_
    refine lv_iload_n B.1 B.2.1 dX10_content_17 rfl (lv_at hl 1 rfl) ?_
    refine io_zald B Z 112 (by decide) io_e_112 hw.1 dX10_content_18 ?_
    have hw := hw.2
    refine lv_if_eq (tgt := 56) B.1 B.2.1 dX10_content_19 (by decide) (fun k6 => ?_) (fun k6 => ?_)
    · have hw := hw.1 k6
      refine lv_iconst (v := (-1)) B.1 B.2.1 dX10_content_56 (by decide) ?_
      exact io_ret_i B Z hr hlk hw dX10_content_57
    · have hw := hw.2 k6
      refine lv_iload_n B.1 B.2.1 dX10_content_22 rfl (lv_at hl 2 rfl) ?_
      refine lv_iconst (v := 0) B.1 B.2.1 dX10_content_23 (by decide) ?_
      refine lv_aload_n B.1 B.2.1 dX10_content_24 rfl (lv_at hl 0 rfl) ?_
      refine io_g_10_1 B Z dX10_content_25 ?_
      refine lv_iload_n B.1 B.2.1 dX10_content_28 rfl (lv_at hl 1 rfl) ?_
      refine io_iald B Z 113 (by decide) io_e_113 hw.1 dX10_content_29 ?_
      have hw := hw.2
      refine lv_iconst (v := 1) B.1 B.2.1 dX10_content_30 (by decide) ?_
      refine lv_isub B.1 B.2.1 dX10_content_31 ?_
      refine io_call_i Z (io_runS [.int p2, .int 0, .int ((s3 113 (p1).toNatClampNeg) - 1)] [] B Z (io_c_X10_in l D ca ad A _ p2 0 ((s3 113 (p1).toNatClampNeg) - 1) _ hw) io_k_10_127 (io_hR (by decide) (by decide)) rfl hl.1 (Nat.le_of_ble_eq_true rfl) dX10_content_32 ⟨Nat.le_refl _, Nat.le_refl _⟩) (fun r7 s8 H locs hw Z => ?_)
      obtain ⟨b9, hw⟩ := hw
      refine lv_if_eq (tgt := 56) B.1 B.2.1 dX10_content_35 (by decide) (fun k10 => ?_) (fun k10 => ?_)
      · have hw := hw.1 k10
        refine lv_iconst (v := (-1)) B.1 B.2.1 dX10_content_56 (by decide) ?_
        exact io_ret_i B Z hr hlk hw dX10_content_57
      · have hw := hw.2 k10
        refine lv_aload_n B.1 B.2.1 dX10_content_38 rfl (lv_at hl 0 rfl) ?_
        refine io_g_10_2 B Z dX10_content_39 ?_
        refine lv_bipush (v := 40) B.1 B.2.1 dX10_content_42 (by decide) ?_
        refine lv_iload_n B.1 B.2.1 dX10_content_44 rfl (lv_at hl 1 rfl) ?_
        refine lv_imul B.1 B.2.1 dX10_content_45 ?_
        refine lv_iload_n B.1 B.2.1 dX10_content_46 rfl (lv_at hl 2 rfl) ?_
        refine lv_iadd B.1 B.2.1 dX10_content_47 ?_
        refine io_bald B Z 114 (by decide) io_e_114 hw.1 dX10_content_48 ?_
        have hw := hw.2
        refine lv_sipush (v := 255) B.1 B.2.1 dX10_content_49 (by decide) ?_
        refine lv_iand B.1 B.2.1 dX10_content_52 ?_
        refine lv_goto (tgt := 57) B.1 B.2.1 dX10_content_53 (by decide) ?_
        exact io_ret_i B Z hr hlk hw dX10_content_57
  · have hw := hw.1 k5
    refine lv_bipush (v := (-2)) B.1 B.2.1 dX10_content_10 (by decide) ?_
    exact io_ret_i B Z hr hlk hw dX10_content_12
def wp_X10_size (σ : io_M) (p1 : Int32) (post : Int32 → io_M → Prop) : Prop := (wp_X10_in σ p1 0 7 (fun r2 s3 => ((r2 = 0 → post (-2) s3) ∧ (¬ (r2 = 0) → (vp_in p1 8 ∧ (((s3 112 (p1).toNatClampNeg) = 0 → post (-1) s3) ∧ (¬ ((s3 112 (p1).toNatClampNeg) = 0) → (vp_in p1 8 ∧ post (s3 113 (p1).toNatClampNeg) s3))))))))
set_option maxHeartbeats 4000000 in
set_option maxRecDepth 100000 in
theorem io_c_X10_size (l : Launch) (D : va_G) (ca : Nat → ClassId) (ad : Nat → Nat) (A : Nat → Prop) (σ : io_M) (p1 : Int32) (post : Int32 → io_M → Prop) (hw : wp_X10_size σ p1 post) : Met l yX10_size (.code yX10_size cX10_size 2 (some .int) :: io_tb) (io_rm 1) (va_Pc [.ref (ad 111), .int p1] (io_W D ca ad A σ)) (va_Qi post (io_W D ca ad A) A) 0 0 A := by
  refine Met.ofW (cc := cX10_size) (maxL := 2) (ret := (some .int)) (by decide) rfl ?_
  intro p e s m args below meth c s₁ Bd hml hv
  obtain ⟨rfl, hW0⟩ := hv
  have Z := io_Z.start hW0
  have B : CallFix p m c cX10_size 2 s _ io_tb RX10 := ⟨Bd.exec, Bd.bytes, hml, findClass_of_methodNamed Bd.named, fun w hw => atoms_spec (ws := (.code yX10_size cX10_size 2 (some .int) :: io_tb)) Bd.pre w (List.mem_cons_of_mem _ hw)⟩
  have hr := Bd.returns
  have hlk := Bd.notSynchronized
  have hl := lv_entry ([.ref (ad 111), .int p1]) (n := 2) (Nat.le_of_ble_eq_true rfl)
  rw [lg_entry_eq]
  generalize (lg_sl ([.ref (ad 111), .int p1]) ++ List.replicate (2 - (lg_sl ([.ref (ad 111), .int p1])).length) Slot.unset).toArray = ls at hl ⊢
  have hl : lv_has ls 2 [(0, .ref (ad 111)), (1, .int p1)] := hl
  show W p l e (io_rm 1) s m _ below meth c s.heap [] 0 0 _ (F0 m 0 ls [])
  unfold wp_X10_size at hw
  refine lv_iload_n B.1 B.2.1 dX10_size_0 rfl (lv_at hl 1 rfl) ?_
  refine lv_iconst (v := 0) B.1 B.2.1 dX10_size_1 (by decide) ?_
  refine lv_bipush (v := 7) B.1 B.2.1 dX10_size_2 (by decide) ?_
  refine io_call_i Z (io_runS [.int p1, .int 0, .int 7] [] B Z (io_c_X10_in l D ca ad A _ p1 0 7 _ hw) io_k_10_127 (io_hR (by decide) (by decide)) rfl hl.1 (Nat.le_of_ble_eq_true rfl) dX10_size_4 ⟨Nat.le_refl _, Nat.le_refl _⟩) (fun r2 s3 H locs hw Z => ?_)
  obtain ⟨b4, hw⟩ := hw
  refine lv_if_ne (tgt := 13) B.1 B.2.1 dX10_size_7 (by decide) (fun k5 => ?_) (fun k5 => ?_)
  · have hw := hw.2 k5
    refine lv_aload_n B.1 B.2.1 dX10_size_13 rfl (lv_at hl 0 rfl) ?_
    refine io_g_10_0 B Z dX10_size_14 ?_
    refine lv_iload_n B.1 B.2.1 dX10_size_17 rfl (lv_at hl 1 rfl) ?_
    refine io_zald B Z 112 (by decide) io_e_112 hw.1 dX10_size_18 ?_
    have hw := hw.2
    refine lv_if_eq (tgt := 31) B.1 B.2.1 dX10_size_19 (by decide) (fun k6 => ?_) (fun k6 => ?_)
    · have hw := hw.1 k6
      refine lv_iconst (v := (-1)) B.1 B.2.1 dX10_size_31 (by decide) ?_
      exact io_ret_i B Z hr hlk hw dX10_size_32
    · have hw := hw.2 k6
      refine lv_aload_n B.1 B.2.1 dX10_size_22 rfl (lv_at hl 0 rfl) ?_
      refine io_g_10_1 B Z dX10_size_23 ?_
      refine lv_iload_n B.1 B.2.1 dX10_size_26 rfl (lv_at hl 1 rfl) ?_
      refine io_iald B Z 113 (by decide) io_e_113 hw.1 dX10_size_27 ?_
      have hw := hw.2
      refine lv_goto (tgt := 32) B.1 B.2.1 dX10_size_28 (by decide) ?_
      exact io_ret_i B Z hr hlk hw dX10_size_32
  · have hw := hw.1 k5
    refine lv_bipush (v := (-2)) B.1 B.2.1 dX10_size_10 (by decide) ?_
    exact io_ret_i B Z hr hlk hw dX10_size_12
def wj_X10_printed_22 (σ : io_M) (x1 : Int32) (y0 : Int32) (y1 : Int32) (y2 : Int32) (post : Int32 → io_M → Prop) : Prop := (wp_X10_in σ y2 y1 (y0 - 1) (fun r101 s102 => ((r101 = 0 → post (-1) s102) ∧ (¬ (r101 = 0) → (vp_in x1 200 ∧ post ((s102 117 (x1).toNatClampNeg) &&& 255) s102)))))
def wp_X10_printed (σ : io_M) (p1 : Int32) (post : Int32 → io_M → Prop) : Prop := ((200 ≤ (σ 111 7) → wj_X10_printed_22 σ p1 200 0 p1 post) ∧ (¬ (200 ≤ (σ 111 7)) → wj_X10_printed_22 σ p1 (σ 111 7) 0 p1 post))
set_option maxHeartbeats 4000000 in
set_option maxRecDepth 100000 in
theorem io_c_X10_printed (l : Launch) (D : va_G) (ca : Nat → ClassId) (ad : Nat → Nat) (A : Nat → Prop) (σ : io_M) (p1 : Int32) (post : Int32 → io_M → Prop) (hw : wp_X10_printed σ p1 post) : Met l yX10_printed (.code yX10_printed cX10_printed 2 (some .int) :: io_tb) (io_rm 1) (va_Pc [.ref (ad 111), .int p1] (io_W D ca ad A σ)) (va_Qi post (io_W D ca ad A) A) 0 0 A := by
  refine Met.ofW (cc := cX10_printed) (maxL := 2) (ret := (some .int)) (by decide) rfl ?_
  intro p e s m args below meth c s₁ Bd hml hv
  obtain ⟨rfl, hW0⟩ := hv
  have Z := io_Z.start hW0
  have B : CallFix p m c cX10_printed 2 s _ io_tb RX10 := ⟨Bd.exec, Bd.bytes, hml, findClass_of_methodNamed Bd.named, fun w hw => atoms_spec (ws := (.code yX10_printed cX10_printed 2 (some .int) :: io_tb)) Bd.pre w (List.mem_cons_of_mem _ hw)⟩
  have hr := Bd.returns
  have hlk := Bd.notSynchronized
  have hl := lv_entry ([.ref (ad 111), .int p1]) (n := 2) (Nat.le_of_ble_eq_true rfl)
  rw [lg_entry_eq]
  generalize (lg_sl ([.ref (ad 111), .int p1]) ++ List.replicate (2 - (lg_sl ([.ref (ad 111), .int p1])).length) Slot.unset).toArray = ls at hl ⊢
  have hl : lv_has ls 2 [(0, .ref (ad 111)), (1, .int p1)] := hl
  show W p l e (io_rm 1) s m _ below meth c s.heap [] 0 0 _ (F0 m 0 ls [])
  have JN22 : ∀ (σ : io_M) (x1 : Int32) (y0 : Int32) (y1 : Int32) (y2 : Int32), wj_X10_printed_22 σ x1 y0 y1 y2 post → ∀ (H : Heap) (locs : List Loc), io_Z D ca ad A s H locs σ → ∀ ls : Array Slot, lv_has ls 2 [(0, .ref (ad 111)), (1, .int x1)] → W p l e (io_rm 1) s m ([.ref (ad 111), .int p1] : List Value).toArray below meth c H locs 0 0 (MQ below (va_Qi post (io_W D ca ad A) A) ([.ref (ad 111), .int p1] : List Value).toArray s 0 0 A) (F0 m 22 ls [.int y0, .int y1, .int y2]) := by
    intro σ x1 y0 y1 y2 hw H locs Z ls hl
    unfold wj_X10_printed_22 at hw
    refine lv_iconst (v := 1) B.1 B.2.1 dX10_printed_22 (by decide) ?_
    refine lv_isub B.1 B.2.1 dX10_printed_23 ?_
    refine io_call_i Z (io_runS [.int y2, .int y1, .int (y0 - 1)] [] B Z (io_c_X10_in l D ca ad A _ y2 y1 (y0 - 1) _ hw) io_k_10_127 (io_hR (by decide) (by decide)) rfl hl.1 (Nat.le_of_ble_eq_true rfl) dX10_printed_24 ⟨Nat.le_refl _, Nat.le_refl _⟩) (fun r101 s102 H locs hw Z => ?_)
    obtain ⟨b103, hw⟩ := hw
    refine lv_if_eq (tgt := 43) B.1 B.2.1 dX10_printed_27 (by decide) (fun k104 => ?_) (fun k104 => ?_)
    · have hw := hw.1 k104
      refine lv_iconst (v := (-1)) B.1 B.2.1 dX10_printed_43 (by decide) ?_
      exact io_ret_i B Z hr hlk hw dX10_printed_44
    · have hw := hw.2 k104
      refine lv_aload_n B.1 B.2.1 dX10_printed_30 rfl (lv_at hl 0 rfl) ?_
      refine io_g_10_8 B Z dX10_printed_31 ?_
      refine lv_iload_n B.1 B.2.1 dX10_printed_34 rfl (lv_at hl 1 rfl) ?_
      refine io_bald B Z 117 (by decide) io_e_117 hw.1 dX10_printed_35 ?_
      have hw := hw.2
      refine lv_sipush (v := 255) B.1 B.2.1 dX10_printed_36 (by decide) ?_
      refine lv_iand B.1 B.2.1 dX10_printed_39 ?_
      refine lv_goto (tgt := 44) B.1 B.2.1 dX10_printed_40 (by decide) ?_
      exact io_ret_i B Z hr hlk hw dX10_printed_44
  unfold wp_X10_printed at hw
  refine lv_iload_n B.1 B.2.1 dX10_printed_0 rfl (lv_at hl 1 rfl) ?_
  refine lv_iconst (v := 0) B.1 B.2.1 dX10_printed_1 (by decide) ?_
  refine lv_aload_n B.1 B.2.1 dX10_printed_2 rfl (lv_at hl 0 rfl) ?_
  refine io_g_10_7 B Z dX10_printed_3 ?_
  refine lv_sipush (v := 200) B.1 B.2.1 dX10_printed_6 (by decide) ?_
  refine lv_icmp_ge (tgt := 19) B.1 B.2.1 dX10_printed_9 (by decide) (fun k2 => ?_) (fun k2 => ?_)
  · have hw := hw.1 k2
    refine lv_sipush (v := 200) B.1 B.2.1 dX10_printed_19 (by decide) ?_
    exact JN22 _ p1 200 0 p1 hw _ _ Z _ (lv_sub (l' := [(0, .ref (ad 111)), (1, .int p1)]) hl [0, 1] rfl)
  · have hw := hw.2 k2
    refine lv_aload_n B.1 B.2.1 dX10_printed_12 rfl (lv_at hl 0 rfl) ?_
    refine io_g_10_7 B Z dX10_printed_13 ?_
    refine lv_goto (tgt := 22) B.1 B.2.1 dX10_printed_16 (by decide) ?_
    exact JN22 _ p1 (σ 111 7) 0 p1 hw _ _ Z _ (lv_sub (l' := [(0, .ref (ad 111)), (1, .int p1)]) hl [0, 1] rfl)
def wp_X10_told (σ : io_M) (p1 : Int32) (post : Int32 → io_M → Prop) : Prop := ((p1 = 0 → post (σ 111 9) σ) ∧ (¬ (p1 = 0) → ((p1 = 1 → post ((σ 111 4) - (σ 111 5)) σ) ∧ (¬ (p1 = 1) → ((p1 = 2 → post (σ 111 7) σ) ∧ (¬ (p1 = 2) → ((p1 = 3 → (wp_X10_allBytes σ (fun r6 s7 => post r6 s7))) ∧ (¬ (p1 = 3) → ((p1 = 4 → post (σ 111 16) σ) ∧ (¬ (p1 = 4) → ((p1 = 5 → post (σ 111 28) σ) ∧ (¬ (p1 = 5) → ((p1 = 6 → post (σ 111 33) σ) ∧ (¬ (p1 = 6) → post (-2) σ))))))))))))))
set_option maxHeartbeats 4000000 in
set_option maxRecDepth 100000 in
theorem io_c_X10_told (l : Launch) (D : va_G) (ca : Nat → ClassId) (ad : Nat → Nat) (A : Nat → Prop) (σ : io_M) (p1 : Int32) (post : Int32 → io_M → Prop) (hw : wp_X10_told σ p1 post) : Met l yX10_told (.code yX10_told cX10_told 2 (some .int) :: io_tb) (io_rm 1) (va_Pc [.ref (ad 111), .int p1] (io_W D ca ad A σ)) (va_Qi post (io_W D ca ad A) A) 0 0 A := by
  refine Met.ofW (cc := cX10_told) (maxL := 2) (ret := (some .int)) (by decide) rfl ?_
  intro p e s m args below meth c s₁ Bd hml hv
  obtain ⟨rfl, hW0⟩ := hv
  have Z := io_Z.start hW0
  have B : CallFix p m c cX10_told 2 s _ io_tb RX10 := ⟨Bd.exec, Bd.bytes, hml, findClass_of_methodNamed Bd.named, fun w hw => atoms_spec (ws := (.code yX10_told cX10_told 2 (some .int) :: io_tb)) Bd.pre w (List.mem_cons_of_mem _ hw)⟩
  have hr := Bd.returns
  have hlk := Bd.notSynchronized
  have hl := lv_entry ([.ref (ad 111), .int p1]) (n := 2) (Nat.le_of_ble_eq_true rfl)
  rw [lg_entry_eq]
  generalize (lg_sl ([.ref (ad 111), .int p1]) ++ List.replicate (2 - (lg_sl ([.ref (ad 111), .int p1])).length) Slot.unset).toArray = ls at hl ⊢
  have hl : lv_has ls 2 [(0, .ref (ad 111)), (1, .int p1)] := hl
  show W p l e (io_rm 1) s m _ below meth c s.heap [] 0 0 _ (F0 m 0 ls [])
  unfold wp_X10_told at hw
  refine lv_iload_n B.1 B.2.1 dX10_told_0 rfl (lv_at hl 1 rfl) ?_
  rcases Classical.em (p1 = 0) with k2 | k2
  · have hw := hw.1 k2
    refine lv_tableIn (tgt := 44) (off := 43) B.1 B.2.1 dX10_told_1 (by rw [k2]; decide) (by rw [k2]; decide) (by rw [k2]; decide) (by decide) ?_
    refine lv_aload_n B.1 B.2.1 dX10_told_44 rfl (lv_at hl 0 rfl) ?_
    refine io_g_10_9 B Z dX10_told_45 ?_
    exact io_ret_i B Z hr hlk hw dX10_told_48
  have hw := hw.2 k2
  rcases Classical.em (p1 = 1) with k3 | k3
  · have hw := hw.1 k3
    refine lv_tableIn (tgt := 49) (off := 48) B.1 B.2.1 dX10_told_1 (by rw [k3]; decide) (by rw [k3]; decide) (by rw [k3]; decide) (by decide) ?_
    refine lv_aload_n B.1 B.2.1 dX10_told_49 rfl (lv_at hl 0 rfl) ?_
    refine io_g_10_4 B Z dX10_told_50 ?_
    refine lv_aload_n B.1 B.2.1 dX10_told_53 rfl (lv_at hl 0 rfl) ?_
    refine io_g_10_5 B Z dX10_told_54 ?_
    refine lv_isub B.1 B.2.1 dX10_told_57 ?_
    exact io_ret_i B Z hr hlk hw dX10_told_58
  have hw := hw.2 k3
  rcases Classical.em (p1 = 2) with k4 | k4
  · have hw := hw.1 k4
    refine lv_tableIn (tgt := 59) (off := 58) B.1 B.2.1 dX10_told_1 (by rw [k4]; decide) (by rw [k4]; decide) (by rw [k4]; decide) (by decide) ?_
    refine lv_aload_n B.1 B.2.1 dX10_told_59 rfl (lv_at hl 0 rfl) ?_
    refine io_g_10_7 B Z dX10_told_60 ?_
    exact io_ret_i B Z hr hlk hw dX10_told_63
  have hw := hw.2 k4
  rcases Classical.em (p1 = 3) with k5 | k5
  · have hw := hw.1 k5
    refine lv_tableIn (tgt := 64) (off := 63) B.1 B.2.1 dX10_told_1 (by rw [k5]; decide) (by rw [k5]; decide) (by rw [k5]; decide) (by decide) ?_
    refine lv_aload_n B.1 B.2.1 dX10_told_64 rfl (lv_at hl 0 rfl) ?_
    refine io_call_i Z (io_runV (ci := 10) (k := 111) [] [] B Z (io_c_X10_allBytes l D ca ad A _ _ hw) io_k_10_131 (io_hR (by decide) (by decide)) rfl (by decide) (io_e_111 _) rfl hl.1 (Nat.le_of_ble_eq_true rfl) dX10_told_65 ⟨Nat.le_refl _, Nat.le_refl _⟩) (fun r6 s7 H locs hw Z => ?_)
    exact io_ret_i B Z hr hlk hw dX10_told_68
  have hw := hw.2 k5
  rcases Classical.em (p1 = 4) with k8 | k8
  · have hw := hw.1 k8
    refine lv_tableIn (tgt := 69) (off := 68) B.1 B.2.1 dX10_told_1 (by rw [k8]; decide) (by rw [k8]; decide) (by rw [k8]; decide) (by decide) ?_
    refine lv_aload_n B.1 B.2.1 dX10_told_69 rfl (lv_at hl 0 rfl) ?_
    refine io_g_10_16 B Z dX10_told_70 ?_
    exact io_ret_i B Z hr hlk hw dX10_told_73
  have hw := hw.2 k8
  rcases Classical.em (p1 = 5) with k9 | k9
  · have hw := hw.1 k9
    refine lv_tableIn (tgt := 74) (off := 73) B.1 B.2.1 dX10_told_1 (by rw [k9]; decide) (by rw [k9]; decide) (by rw [k9]; decide) (by decide) ?_
    refine lv_aload_n B.1 B.2.1 dX10_told_74 rfl (lv_at hl 0 rfl) ?_
    refine io_g_10_28 B Z dX10_told_75 ?_
    exact io_ret_i B Z hr hlk hw dX10_told_78
  have hw := hw.2 k9
  rcases Classical.em (p1 = 6) with k10 | k10
  · have hw := hw.1 k10
    refine lv_tableIn (tgt := 79) (off := 78) B.1 B.2.1 dX10_told_1 (by rw [k10]; decide) (by rw [k10]; decide) (by rw [k10]; decide) (by decide) ?_
    refine lv_aload_n B.1 B.2.1 dX10_told_79 rfl (lv_at hl 0 rfl) ?_
    refine io_g_10_33 B Z dX10_told_80 ?_
    exact io_ret_i B Z hr hlk hw dX10_told_83
  have hw := hw.2 k10
  refine io_tswE (tgt := 84) (fun z => (([0, 1, 2, 3, 4, 5, 6] : List Int32).contains z) = true) B dX10_told_1 (by decide) (by decide) (by decide) (by decide +kernel) (io_nc (List.forall_mem_cons.mpr ⟨fun q => k2 (q), (List.forall_mem_cons.mpr ⟨fun q => k3 (q), (List.forall_mem_cons.mpr ⟨fun q => k4 (q), (List.forall_mem_cons.mpr ⟨fun q => k5 (q), (List.forall_mem_cons.mpr ⟨fun q => k8 (q), (List.forall_mem_cons.mpr ⟨fun q => k9 (q), (List.forall_mem_cons.mpr ⟨fun q => k10 (q), (fun _ h => absurd h List.not_mem_nil)⟩)⟩)⟩)⟩)⟩)⟩)⟩)) ?_
  refine lv_bipush (v := (-2)) B.1 B.2.1 dX10_told_84 (by decide) ?_
  exact io_ret_i B Z hr hlk hw dX10_told_86
