def wl_L_law_18 (L : Nat) (xs : Nat → Int32) : Nat → io_M → Int32 → Prop
  | 0, _, _ => False
  | n + 1, σ, x3 => ((((Int32.ofNat L) - 5) < x3 → True) ∧ (¬ (((Int32.ofNat L) - 5) < x3) → (vp_in x3 L ∧ ((((xs (x3).toNatClampNeg) &&& 15) = 0 → (vp_in (x3 + 1) L ∧ (vp_in (x3 + 2) L ∧ (wp_X9_lay σ (xs ((x3 + 1)).toNatClampNeg) (xs ((x3 + 2)).toNatClampNeg) (fun r3 s4 => (vp_in (x3 + 1) L ∧ (vp_in (x3 + 2) L ∧ (wp_X10_lay s4 (xs ((x3 + 1)).toNatClampNeg) (xs ((x3 + 2)).toNatClampNeg) (fun r5 s6 => wl_L_law_18 L xs n s6 (x3 + 5)))))))))) ∧ (¬ (((xs (x3).toNatClampNeg) &&& 15) = 0) → ((((xs (x3).toNatClampNeg) &&& 15) = 1 → (vp_in (x3 + 1) L ∧ (vp_in (x3 + 2) L ∧ (((xs ((x3 + 2)).toNatClampNeg) = 0 → (wp_X9_there σ (xs ((x3 + 1)).toNatClampNeg) 0 (fun r9 s10 => (vp_in (x3 + 1) L ∧ (vp_in (x3 + 2) L ∧ (((xs ((x3 + 2)).toNatClampNeg) = 0 → (wp_X10_there s10 (xs ((x3 + 1)).toNatClampNeg) 0 (fun r12 s13 => wl_L_law_18 L xs n s13 (x3 + 5)))) ∧ (¬ ((xs ((x3 + 2)).toNatClampNeg) = 0) → (wp_X10_there s10 (xs ((x3 + 1)).toNatClampNeg) 1 (fun r14 s15 => wl_L_law_18 L xs n s15 (x3 + 5)))))))))) ∧ (¬ ((xs ((x3 + 2)).toNatClampNeg) = 0) → (wp_X9_there σ (xs ((x3 + 1)).toNatClampNeg) 1 (fun r16 s17 => (vp_in (x3 + 1) L ∧ (vp_in (x3 + 2) L ∧ (((xs ((x3 + 2)).toNatClampNeg) = 0 → (wp_X10_there s17 (xs ((x3 + 1)).toNatClampNeg) 0 (fun r19 s20 => wl_L_law_18 L xs n s20 (x3 + 5)))) ∧ (¬ ((xs ((x3 + 2)).toNatClampNeg) = 0) → (wp_X10_there s17 (xs ((x3 + 1)).toNatClampNeg) 1 (fun r21 s22 => wl_L_law_18 L xs n s22 (x3 + 5)))))))))))))) ∧ (¬ (((xs (x3).toNatClampNeg) &&& 15) = 1) → ((((xs (x3).toNatClampNeg) &&& 15) = 2 → (vp_in (x3 + 1) L ∧ (vp_in (x3 + 2) L ∧ (wp_X9_permit σ (xs ((x3 + 1)).toNatClampNeg) (xs ((x3 + 2)).toNatClampNeg) (fun r24 s25 => (vp_in (x3 + 1) L ∧ (vp_in (x3 + 2) L ∧ (wp_X10_permit s25 (xs ((x3 + 1)).toNatClampNeg) (xs ((x3 + 2)).toNatClampNeg) (fun r26 s27 => wl_L_law_18 L xs n s27 (x3 + 5)))))))))) ∧ (¬ (((xs (x3).toNatClampNeg) &&& 15) = 2) → ((((xs (x3).toNatClampNeg) &&& 15) = 3 → (vp_in (x3 + 1) L ∧ (wp_X9_input σ (xs ((x3 + 1)).toNatClampNeg) (fun r29 s30 => (vp_in (x3 + 1) L ∧ (wp_X10_input s30 (xs ((x3 + 1)).toNatClampNeg) (fun r31 s32 => wl_L_law_18 L xs n s32 (x3 + 5)))))))) ∧ (¬ (((xs (x3).toNatClampNeg) &&& 15) = 3) → ((((xs (x3).toNatClampNeg) &&& 15) = 4 → (vp_in (x3 + 1) L ∧ (vp_in (x3 + 2) L ∧ (vp_in (x3 + 3) L ∧ (vp_in (x3 + 4) L ∧ (wp_X9_node σ (xs ((x3 + 1)).toNatClampNeg) (xs ((x3 + 2)).toNatClampNeg) (xs ((x3 + 3)).toNatClampNeg) (xs ((x3 + 4)).toNatClampNeg) (fun r34 s35 => (vp_in (x3 + 1) L ∧ (vp_in (x3 + 2) L ∧ (vp_in (x3 + 3) L ∧ (vp_in (x3 + 4) L ∧ (wp_X10_node s35 (xs ((x3 + 1)).toNatClampNeg) (xs ((x3 + 2)).toNatClampNeg) (xs ((x3 + 3)).toNatClampNeg) (xs ((x3 + 4)).toNatClampNeg) (fun r36 s37 => wl_L_law_18 L xs n s37 (x3 + 5)))))))))))))) ∧ (¬ (((xs (x3).toNatClampNeg) &&& 15) = 4) → ((((xs (x3).toNatClampNeg) &&& 15) = 5 → (wp_X9_clear σ (fun r39 s40 => (wp_X10_clear s40 (fun r41 s42 => wl_L_law_18 L xs n s42 (x3 + 5)))))) ∧ (¬ (((xs (x3).toNatClampNeg) &&& 15) = 5) → ((((xs (x3).toNatClampNeg) &&& 15) = 6 → (vp_in (x3 + 1) L ∧ (wp_X9_run σ (xs ((x3 + 1)).toNatClampNeg) (fun r44 s45 => (vp_in (x3 + 1) L ∧ (wp_X10_run s45 (xs ((x3 + 1)).toNatClampNeg) (fun r46 s47 => wl_L_law_18 L xs n s47 (x3 + 5)))))))) ∧ (¬ (((xs (x3).toNatClampNeg) &&& 15) = 6) → ((((xs (x3).toNatClampNeg) &&& 15) = 7 → (wp_X9_value σ (fun r49 s50 => (wp_X10_value s50 (fun r51 s52 => wl_L_law_18 L xs n s52 (x3 + 5)))))) ∧ (¬ (((xs (x3).toNatClampNeg) &&& 15) = 7) → ((((xs (x3).toNatClampNeg) &&& 15) = 8 → (wp_X9_where σ (fun r54 s55 => (wp_X10_where s55 (fun r56 s57 => wl_L_law_18 L xs n s57 (x3 + 5)))))) ∧ (¬ (((xs (x3).toNatClampNeg) &&& 15) = 8) → ((((xs (x3).toNatClampNeg) &&& 15) = 9 → (wp_X9_worked σ (fun r59 s60 => (wp_X10_worked s60 (fun r61 s62 => wl_L_law_18 L xs n s62 (x3 + 5)))))) ∧ (¬ (((xs (x3).toNatClampNeg) &&& 15) = 9) → ((((xs (x3).toNatClampNeg) &&& 15) = 10 → (vp_in (x3 + 1) L ∧ (wp_X9_order σ (xs ((x3 + 1)).toNatClampNeg) (fun r64 s65 => (vp_in (x3 + 1) L ∧ (wp_X10_order s65 (xs ((x3 + 1)).toNatClampNeg) (fun r66 s67 => wl_L_law_18 L xs n s67 (x3 + 5)))))))) ∧ (¬ (((xs (x3).toNatClampNeg) &&& 15) = 10) → ((((xs (x3).toNatClampNeg) &&& 15) = 11 → (vp_in (x3 + 1) L ∧ (vp_in (x3 + 2) L ∧ (wp_X9_handle σ (xs ((x3 + 1)).toNatClampNeg) (xs ((x3 + 2)).toNatClampNeg) (fun r69 s70 => (vp_in (x3 + 1) L ∧ (vp_in (x3 + 2) L ∧ (wp_X10_handle s70 (xs ((x3 + 1)).toNatClampNeg) (xs ((x3 + 2)).toNatClampNeg) (fun r71 s72 => wl_L_law_18 L xs n s72 (x3 + 5)))))))))) ∧ (¬ (((xs (x3).toNatClampNeg) &&& 15) = 11) → ((((xs (x3).toNatClampNeg) &&& 15) = 12 → (vp_in (x3 + 1) L ∧ (vp_in (x3 + 2) L ∧ (wp_X9_content σ (xs ((x3 + 1)).toNatClampNeg) (xs ((x3 + 2)).toNatClampNeg) (fun r74 s75 => (vp_in (x3 + 1) L ∧ (vp_in (x3 + 2) L ∧ (wp_X10_content s75 (xs ((x3 + 1)).toNatClampNeg) (xs ((x3 + 2)).toNatClampNeg) (fun r76 s77 => wl_L_law_18 L xs n s77 (x3 + 5)))))))))) ∧ (¬ (((xs (x3).toNatClampNeg) &&& 15) = 12) → ((((xs (x3).toNatClampNeg) &&& 15) = 13 → (vp_in (x3 + 1) L ∧ (wp_X9_size σ (xs ((x3 + 1)).toNatClampNeg) (fun r79 s80 => (vp_in (x3 + 1) L ∧ (wp_X10_size s80 (xs ((x3 + 1)).toNatClampNeg) (fun r81 s82 => wl_L_law_18 L xs n s82 (x3 + 5)))))))) ∧ (¬ (((xs (x3).toNatClampNeg) &&& 15) = 13) → ((((xs (x3).toNatClampNeg) &&& 15) = 14 → (vp_in (x3 + 1) L ∧ (wp_X9_printed σ (xs ((x3 + 1)).toNatClampNeg) (fun r84 s85 => (vp_in (x3 + 1) L ∧ (wp_X10_printed s85 (xs ((x3 + 1)).toNatClampNeg) (fun r86 s87 => wl_L_law_18 L xs n s87 (x3 + 5)))))))) ∧ (¬ (((xs (x3).toNatClampNeg) &&& 15) = 14) → ((((xs (x3).toNatClampNeg) &&& 15) = 15 → (vp_in (x3 + 1) L ∧ (wp_X9_told σ (xs ((x3 + 1)).toNatClampNeg) (fun r89 s90 => (vp_in (x3 + 1) L ∧ (wp_X10_told s90 (xs ((x3 + 1)).toNatClampNeg) (fun r91 s92 => ((r89 = r91 → wl_L_law_18 L xs n s92 (x3 + 5)) ∧ (¬ (r89 = r91) → False))))))))) ∧ (¬ (((xs (x3).toNatClampNeg) &&& 15) = 15) → wl_L_law_18 L xs n σ (x3 + 5))))))))))))))))))))))))))))))))))))
set_option maxHeartbeats 8000000 in
set_option maxRecDepth 200000 in
theorem law_loop {p : Program} {l : Launch} {e : Env} {s : State} {m : MethodId} {below : List Frame} {meth : Method} {c : Code} {D : va_G} {ca : Nat → ClassId} {ad : Nat → Nat} {b L : Nat} {xs : Nat → Int32} (C0 : lw_At p s m meth c b L xs) : ∀ (n : Nat) (σ : io_M) (x3 : Int32), wl_L_law_18 L xs n σ x3 → ∀ (H : Heap) (locs : List Loc), io_Z D ca ad (fun q : Nat => s.heap.size ≤ q) s H locs σ → ∀ ls : Array Slot, lv_has ls 4 [(0, .ref b), (1, .ref (ad 110)), (2, .ref (ad 111)), (3, .int x3)] → W p l e room_1 s m #[Value.ref b] below meth c H locs 149 6049 (lw_Z below #[Value.ref b] s) (F0 m 18 ls []) := by
  obtain ⟨hx, hb, hr, hml, hown, hts, hX, hbl, hlk, hgv⟩ := id C0
  have hbA : ¬ (fun q : Nat => s.heap.size ≤ q) b := Nat.not_le.mpr hbl
  have B : CallFix p m c cL_law 4 s #[Value.ref b] io_tb RL := ⟨hx, hb, hml, hown, fun w hw => hts w (List.mem_filter.mp hw).1⟩
  generalize hAe : (fun q : Nat => s.heap.size ≤ q) = A at hbA ⊢
  intro n
  induction n with
  | zero =>
    intro σ x3 hw
    exact hw.elim
  | succ n IH18 =>
    intro σ x3 hw H locs Z ls hl
    unfold wl_L_law_18 at hw
    refine lv_iload_n B.1 B.2.1 dL_law_18 rfl (lv_at hl 3 rfl) ?_
    refine lv_aload_n B.1 B.2.1 dL_law_19 rfl (lv_at hl 0 rfl) ?_
    refine va_slen B.1 B.2.1 hX hbl hbA Z.2.2.2.1 dL_law_20 ?_
    refine lv_iconst (v := 5) B.1 B.2.1 dL_law_21 (by decide) ?_
    refine lv_isub B.1 B.2.1 dL_law_22 ?_
    refine lv_icmp_gt (tgt := 542) B.1 B.2.1 dL_law_23 (by decide) (fun k1 => ?_) (fun k1 => ?_)
    · have hw := hw.1 k1
      refine lv_iconst (v := 1) B.1 B.2.1 dL_law_542 (by decide) ?_
      refine va_forget (fun q hq => by have h := Z.2.2.2.1.2.2 q hq; rw [← hAe] at h; exact h) ?_
      refine W.widen (k := 600000) (n := 7302250) (Nat.le_of_ble_eq_true rfl) (Nat.le_of_ble_eq_true rfl) ?_
      exact lw_ret B.1 B.2.1 hr hlk dL_law_543
    · have hw := hw.2 k1
      refine lv_aload_n B.1 B.2.1 dL_law_26 rfl (lv_at hl 0 rfl) ?_
      refine lv_iload_n B.1 B.2.1 dL_law_27 rfl (lv_at hl 3 rfl) ?_
      refine va_sld B.1 B.2.1 hX hbl hbA Z.2.2.2.1 hw.1 dL_law_28 ?_
      have hw := hw.2
      refine lv_bipush (v := 15) B.1 B.2.1 dL_law_29 (by decide) ?_
      refine lv_iand B.1 B.2.1 dL_law_31 ?_
      rcases Classical.em (((xs (x3).toNatClampNeg) &&& 15) = 0) with k2 | k2
      · have hw := hw.1 k2
        refine lv_tableIn (tgt := 112) (off := 80) B.1 B.2.1 dL_law_32 (by rw [k2]; decide) (by rw [k2]; decide) (by rw [k2]; decide) (by decide) ?_
        refine lv_aload_n B.1 B.2.1 dL_law_112 rfl (lv_at hl 1 rfl) ?_
        refine lv_aload_n B.1 B.2.1 dL_law_113 rfl (lv_at hl 0 rfl) ?_
        refine lv_iload_n B.1 B.2.1 dL_law_114 rfl (lv_at hl 3 rfl) ?_
        refine lv_iconst (v := 1) B.1 B.2.1 dL_law_115 (by decide) ?_
        refine lv_iadd B.1 B.2.1 dL_law_116 ?_
        refine va_sld B.1 B.2.1 hX hbl hbA Z.2.2.2.1 hw.1 dL_law_117 ?_
        have hw := hw.2
        refine lv_aload_n B.1 B.2.1 dL_law_118 rfl (lv_at hl 0 rfl) ?_
        refine lv_iload_n B.1 B.2.1 dL_law_119 rfl (lv_at hl 3 rfl) ?_
        refine lv_iconst (v := 2) B.1 B.2.1 dL_law_120 (by decide) ?_
        refine lv_iadd B.1 B.2.1 dL_law_121 ?_
        refine va_sld B.1 B.2.1 hX hbl hbA Z.2.2.2.1 hw.1 dL_law_122 ?_
        have hw := hw.2
        refine io_call_i Z (io_runV (ci := 9) (k := 110) [.int (xs ((x3 + 1)).toNatClampNeg), .int (xs ((x3 + 2)).toNatClampNeg)] [] B Z (io_c_X9_lay l D ca ad A _ (xs ((x3 + 1)).toNatClampNeg) (xs ((x3 + 2)).toNatClampNeg) _ hw) io_k_L_13 ⟨Nat.le_of_ble_eq_true rfl, Nat.le_of_ble_eq_true rfl⟩ rfl (by decide) (io_e_110 _) rfl hl.1 (Nat.le_of_ble_eq_true rfl) dL_law_123 ⟨Nat.le_of_ble_eq_true rfl, Nat.le_of_ble_eq_true rfl⟩) (fun r3 s4 H locs hw Z => ?_)
        refine lv_pop B.1 B.2.1 dL_law_126 rfl ?_
        refine lv_aload_n B.1 B.2.1 dL_law_127 rfl (lv_at hl 2 rfl) ?_
        refine lv_aload_n B.1 B.2.1 dL_law_128 rfl (lv_at hl 0 rfl) ?_
        refine lv_iload_n B.1 B.2.1 dL_law_129 rfl (lv_at hl 3 rfl) ?_
        refine lv_iconst (v := 1) B.1 B.2.1 dL_law_130 (by decide) ?_
        refine lv_iadd B.1 B.2.1 dL_law_131 ?_
        refine va_sld B.1 B.2.1 hX hbl hbA Z.2.2.2.1 hw.1 dL_law_132 ?_
        have hw := hw.2
        refine lv_aload_n B.1 B.2.1 dL_law_133 rfl (lv_at hl 0 rfl) ?_
        refine lv_iload_n B.1 B.2.1 dL_law_134 rfl (lv_at hl 3 rfl) ?_
        refine lv_iconst (v := 2) B.1 B.2.1 dL_law_135 (by decide) ?_
        refine lv_iadd B.1 B.2.1 dL_law_136 ?_
        refine va_sld B.1 B.2.1 hX hbl hbA Z.2.2.2.1 hw.1 dL_law_137 ?_
        have hw := hw.2
        refine io_call_i Z (io_runV (ci := 10) (k := 111) [.int (xs ((x3 + 1)).toNatClampNeg), .int (xs ((x3 + 2)).toNatClampNeg)] [] B Z (io_c_X10_lay l D ca ad A _ (xs ((x3 + 1)).toNatClampNeg) (xs ((x3 + 2)).toNatClampNeg) _ hw) io_k_L_17 ⟨Nat.le_of_ble_eq_true rfl, Nat.le_of_ble_eq_true rfl⟩ rfl (by decide) (io_e_111 _) rfl hl.1 (Nat.le_of_ble_eq_true rfl) dL_law_138 ⟨Nat.le_of_ble_eq_true rfl, Nat.le_of_ble_eq_true rfl⟩) (fun r5 s6 H locs hw Z => ?_)
        refine lv_pop B.1 B.2.1 dL_law_141 rfl ?_
        refine lv_goto (tgt := 536) B.1 B.2.1 dL_law_142 (by decide) ?_
        refine lv_iinc (v := (x3 + 5)) (lv' := [(3, .int (x3 + 5)), (0, .ref b), (1, .ref (ad 110)), (2, .ref (ad 111))]) B.1 B.2.1 dL_law_536 hl (k := 3) rfl rfl (by decide) rfl (fun ls hl => ?_)
        refine lv_goto (tgt := 18) B.1 B.2.1 dL_law_539 (by decide) ?_
        exact IH18 _ (x3 + 5) hw _ _ Z _ (lv_sub (l' := [(0, .ref b), (1, .ref (ad 110)), (2, .ref (ad 111)), (3, .int (x3 + 5))]) hl [1, 2, 3, 0] rfl)
      have hw := hw.2 k2
      rcases Classical.em (((xs (x3).toNatClampNeg) &&& 15) = 1) with k7 | k7
      · have hw := hw.1 k7
        refine lv_tableIn (tgt := 145) (off := 113) B.1 B.2.1 dL_law_32 (by rw [k7]; decide) (by rw [k7]; decide) (by rw [k7]; decide) (by decide) ?_
        refine lv_aload_n B.1 B.2.1 dL_law_145 rfl (lv_at hl 1 rfl) ?_
        refine lv_aload_n B.1 B.2.1 dL_law_146 rfl (lv_at hl 0 rfl) ?_
        refine lv_iload_n B.1 B.2.1 dL_law_147 rfl (lv_at hl 3 rfl) ?_
        refine lv_iconst (v := 1) B.1 B.2.1 dL_law_148 (by decide) ?_
        refine lv_iadd B.1 B.2.1 dL_law_149 ?_
        refine va_sld B.1 B.2.1 hX hbl hbA Z.2.2.2.1 hw.1 dL_law_150 ?_
        have hw := hw.2
        refine lv_aload_n B.1 B.2.1 dL_law_151 rfl (lv_at hl 0 rfl) ?_
        refine lv_iload_n B.1 B.2.1 dL_law_152 rfl (lv_at hl 3 rfl) ?_
        refine lv_iconst (v := 2) B.1 B.2.1 dL_law_153 (by decide) ?_
        refine lv_iadd B.1 B.2.1 dL_law_154 ?_
        refine va_sld B.1 B.2.1 hX hbl hbA Z.2.2.2.1 hw.1 dL_law_155 ?_
        have hw := hw.2
        refine lv_if_eq (tgt := 163) B.1 B.2.1 dL_law_156 (by decide) (fun k8 => ?_) (fun k8 => ?_)
        · have hw := hw.1 k8
          refine lv_iconst (v := 0) B.1 B.2.1 dL_law_163 (by decide) ?_
          refine io_call_i Z (io_runV (ci := 9) (k := 110) [.int (xs ((x3 + 1)).toNatClampNeg), .int 0] [] B Z (io_c_X9_there l D ca ad A _ (xs ((x3 + 1)).toNatClampNeg) 0 _ hw) io_k_L_18 ⟨Nat.le_of_ble_eq_true rfl, Nat.le_of_ble_eq_true rfl⟩ rfl (by decide) (io_e_110 _) rfl hl.1 (Nat.le_of_ble_eq_true rfl) dL_law_164 ⟨Nat.le_of_ble_eq_true rfl, Nat.le_of_ble_eq_true rfl⟩) (fun r9 s10 H locs hw Z => ?_)
          refine lv_pop B.1 B.2.1 dL_law_167 rfl ?_
          refine lv_aload_n B.1 B.2.1 dL_law_168 rfl (lv_at hl 2 rfl) ?_
          refine lv_aload_n B.1 B.2.1 dL_law_169 rfl (lv_at hl 0 rfl) ?_
          refine lv_iload_n B.1 B.2.1 dL_law_170 rfl (lv_at hl 3 rfl) ?_
          refine lv_iconst (v := 1) B.1 B.2.1 dL_law_171 (by decide) ?_
          refine lv_iadd B.1 B.2.1 dL_law_172 ?_
          refine va_sld B.1 B.2.1 hX hbl hbA Z.2.2.2.1 hw.1 dL_law_173 ?_
          have hw := hw.2
          refine lv_aload_n B.1 B.2.1 dL_law_174 rfl (lv_at hl 0 rfl) ?_
          refine lv_iload_n B.1 B.2.1 dL_law_175 rfl (lv_at hl 3 rfl) ?_
          refine lv_iconst (v := 2) B.1 B.2.1 dL_law_176 (by decide) ?_
          refine lv_iadd B.1 B.2.1 dL_law_177 ?_
          refine va_sld B.1 B.2.1 hX hbl hbA Z.2.2.2.1 hw.1 dL_law_178 ?_
          have hw := hw.2
          refine lv_if_eq (tgt := 186) B.1 B.2.1 dL_law_179 (by decide) (fun k11 => ?_) (fun k11 => ?_)
          · have hw := hw.1 k11
            refine lv_iconst (v := 0) B.1 B.2.1 dL_law_186 (by decide) ?_
            refine io_call_i Z (io_runV (ci := 10) (k := 111) [.int (xs ((x3 + 1)).toNatClampNeg), .int 0] [] B Z (io_c_X10_there l D ca ad A _ (xs ((x3 + 1)).toNatClampNeg) 0 _ hw) io_k_L_22 ⟨Nat.le_of_ble_eq_true rfl, Nat.le_of_ble_eq_true rfl⟩ rfl (by decide) (io_e_111 _) rfl hl.1 (Nat.le_of_ble_eq_true rfl) dL_law_187 ⟨Nat.le_of_ble_eq_true rfl, Nat.le_of_ble_eq_true rfl⟩) (fun r12 s13 H locs hw Z => ?_)
            refine lv_pop B.1 B.2.1 dL_law_190 rfl ?_
            refine lv_goto (tgt := 536) B.1 B.2.1 dL_law_191 (by decide) ?_
            refine lv_iinc (v := (x3 + 5)) (lv' := [(3, .int (x3 + 5)), (0, .ref b), (1, .ref (ad 110)), (2, .ref (ad 111))]) B.1 B.2.1 dL_law_536 hl (k := 3) rfl rfl (by decide) rfl (fun ls hl => ?_)
            refine lv_goto (tgt := 18) B.1 B.2.1 dL_law_539 (by decide) ?_
            exact IH18 _ (x3 + 5) hw _ _ Z _ (lv_sub (l' := [(0, .ref b), (1, .ref (ad 110)), (2, .ref (ad 111)), (3, .int (x3 + 5))]) hl [1, 2, 3, 0] rfl)
          · have hw := hw.2 k11
            refine lv_iconst (v := 1) B.1 B.2.1 dL_law_182 (by decide) ?_
            refine lv_goto (tgt := 187) B.1 B.2.1 dL_law_183 (by decide) ?_
            refine io_call_i Z (io_runV (ci := 10) (k := 111) [.int (xs ((x3 + 1)).toNatClampNeg), .int 1] [] B Z (io_c_X10_there l D ca ad A _ (xs ((x3 + 1)).toNatClampNeg) 1 _ hw) io_k_L_22 ⟨Nat.le_of_ble_eq_true rfl, Nat.le_of_ble_eq_true rfl⟩ rfl (by decide) (io_e_111 _) rfl hl.1 (Nat.le_of_ble_eq_true rfl) dL_law_187 ⟨Nat.le_of_ble_eq_true rfl, Nat.le_of_ble_eq_true rfl⟩) (fun r14 s15 H locs hw Z => ?_)
            refine lv_pop B.1 B.2.1 dL_law_190 rfl ?_
            refine lv_goto (tgt := 536) B.1 B.2.1 dL_law_191 (by decide) ?_
            refine lv_iinc (v := (x3 + 5)) (lv' := [(3, .int (x3 + 5)), (0, .ref b), (1, .ref (ad 110)), (2, .ref (ad 111))]) B.1 B.2.1 dL_law_536 hl (k := 3) rfl rfl (by decide) rfl (fun ls hl => ?_)
            refine lv_goto (tgt := 18) B.1 B.2.1 dL_law_539 (by decide) ?_
            exact IH18 _ (x3 + 5) hw _ _ Z _ (lv_sub (l' := [(0, .ref b), (1, .ref (ad 110)), (2, .ref (ad 111)), (3, .int (x3 + 5))]) hl [1, 2, 3, 0] rfl)
        · have hw := hw.2 k8
          refine lv_iconst (v := 1) B.1 B.2.1 dL_law_159 (by decide) ?_
          refine lv_goto (tgt := 164) B.1 B.2.1 dL_law_160 (by decide) ?_
          refine io_call_i Z (io_runV (ci := 9) (k := 110) [.int (xs ((x3 + 1)).toNatClampNeg), .int 1] [] B Z (io_c_X9_there l D ca ad A _ (xs ((x3 + 1)).toNatClampNeg) 1 _ hw) io_k_L_18 ⟨Nat.le_of_ble_eq_true rfl, Nat.le_of_ble_eq_true rfl⟩ rfl (by decide) (io_e_110 _) rfl hl.1 (Nat.le_of_ble_eq_true rfl) dL_law_164 ⟨Nat.le_of_ble_eq_true rfl, Nat.le_of_ble_eq_true rfl⟩) (fun r16 s17 H locs hw Z => ?_)
          refine lv_pop B.1 B.2.1 dL_law_167 rfl ?_
          refine lv_aload_n B.1 B.2.1 dL_law_168 rfl (lv_at hl 2 rfl) ?_
          refine lv_aload_n B.1 B.2.1 dL_law_169 rfl (lv_at hl 0 rfl) ?_
          refine lv_iload_n B.1 B.2.1 dL_law_170 rfl (lv_at hl 3 rfl) ?_
          refine lv_iconst (v := 1) B.1 B.2.1 dL_law_171 (by decide) ?_
          refine lv_iadd B.1 B.2.1 dL_law_172 ?_
          refine va_sld B.1 B.2.1 hX hbl hbA Z.2.2.2.1 hw.1 dL_law_173 ?_
          have hw := hw.2
          refine lv_aload_n B.1 B.2.1 dL_law_174 rfl (lv_at hl 0 rfl) ?_
          refine lv_iload_n B.1 B.2.1 dL_law_175 rfl (lv_at hl 3 rfl) ?_
          refine lv_iconst (v := 2) B.1 B.2.1 dL_law_176 (by decide) ?_
          refine lv_iadd B.1 B.2.1 dL_law_177 ?_
          refine va_sld B.1 B.2.1 hX hbl hbA Z.2.2.2.1 hw.1 dL_law_178 ?_
          have hw := hw.2
          refine lv_if_eq (tgt := 186) B.1 B.2.1 dL_law_179 (by decide) (fun k18 => ?_) (fun k18 => ?_)
          · have hw := hw.1 k18
            refine lv_iconst (v := 0) B.1 B.2.1 dL_law_186 (by decide) ?_
            refine io_call_i Z (io_runV (ci := 10) (k := 111) [.int (xs ((x3 + 1)).toNatClampNeg), .int 0] [] B Z (io_c_X10_there l D ca ad A _ (xs ((x3 + 1)).toNatClampNeg) 0 _ hw) io_k_L_22 ⟨Nat.le_of_ble_eq_true rfl, Nat.le_of_ble_eq_true rfl⟩ rfl (by decide) (io_e_111 _) rfl hl.1 (Nat.le_of_ble_eq_true rfl) dL_law_187 ⟨Nat.le_of_ble_eq_true rfl, Nat.le_of_ble_eq_true rfl⟩) (fun r19 s20 H locs hw Z => ?_)
            refine lv_pop B.1 B.2.1 dL_law_190 rfl ?_
            refine lv_goto (tgt := 536) B.1 B.2.1 dL_law_191 (by decide) ?_
            refine lv_iinc (v := (x3 + 5)) (lv' := [(3, .int (x3 + 5)), (0, .ref b), (1, .ref (ad 110)), (2, .ref (ad 111))]) B.1 B.2.1 dL_law_536 hl (k := 3) rfl rfl (by decide) rfl (fun ls hl => ?_)
            refine lv_goto (tgt := 18) B.1 B.2.1 dL_law_539 (by decide) ?_
            exact IH18 _ (x3 + 5) hw _ _ Z _ (lv_sub (l' := [(0, .ref b), (1, .ref (ad 110)), (2, .ref (ad 111)), (3, .int (x3 + 5))]) hl [1, 2, 3, 0] rfl)
          · have hw := hw.2 k18
            refine lv_iconst (v := 1) B.1 B.2.1 dL_law_182 (by decide) ?_
            refine lv_goto (tgt := 187) B.1 B.2.1 dL_law_183 (by decide) ?_
            refine io_call_i Z (io_runV (ci := 10) (k := 111) [.int (xs ((x3 + 1)).toNatClampNeg), .int 1] [] B Z (io_c_X10_there l D ca ad A _ (xs ((x3 + 1)).toNatClampNeg) 1 _ hw) io_k_L_22 ⟨Nat.le_of_ble_eq_true rfl, Nat.le_of_ble_eq_true rfl⟩ rfl (by decide) (io_e_111 _) rfl hl.1 (Nat.le_of_ble_eq_true rfl) dL_law_187 ⟨Nat.le_of_ble_eq_true rfl, Nat.le_of_ble_eq_true rfl⟩) (fun r21 s22 H locs hw Z => ?_)
            refine lv_pop B.1 B.2.1 dL_law_190 rfl ?_
            refine lv_goto (tgt := 536) B.1 B.2.1 dL_law_191 (by decide) ?_
            refine lv_iinc (v := (x3 + 5)) (lv' := [(3, .int (x3 + 5)), (0, .ref b), (1, .ref (ad 110)), (2, .ref (ad 111))]) B.1 B.2.1 dL_law_536 hl (k := 3) rfl rfl (by decide) rfl (fun ls hl => ?_)
            refine lv_goto (tgt := 18) B.1 B.2.1 dL_law_539 (by decide) ?_
            exact IH18 _ (x3 + 5) hw _ _ Z _ (lv_sub (l' := [(0, .ref b), (1, .ref (ad 110)), (2, .ref (ad 111)), (3, .int (x3 + 5))]) hl [1, 2, 3, 0] rfl)
      have hw := hw.2 k7
      rcases Classical.em (((xs (x3).toNatClampNeg) &&& 15) = 2) with k23 | k23
      · have hw := hw.1 k23
        refine lv_tableIn (tgt := 194) (off := 162) B.1 B.2.1 dL_law_32 (by rw [k23]; decide) (by rw [k23]; decide) (by rw [k23]; decide) (by decide) ?_
        refine lv_aload_n B.1 B.2.1 dL_law_194 rfl (lv_at hl 1 rfl) ?_
        refine lv_aload_n B.1 B.2.1 dL_law_195 rfl (lv_at hl 0 rfl) ?_
        refine lv_iload_n B.1 B.2.1 dL_law_196 rfl (lv_at hl 3 rfl) ?_
        refine lv_iconst (v := 1) B.1 B.2.1 dL_law_197 (by decide) ?_
        refine lv_iadd B.1 B.2.1 dL_law_198 ?_
        refine va_sld B.1 B.2.1 hX hbl hbA Z.2.2.2.1 hw.1 dL_law_199 ?_
        have hw := hw.2
        refine lv_aload_n B.1 B.2.1 dL_law_200 rfl (lv_at hl 0 rfl) ?_
        refine lv_iload_n B.1 B.2.1 dL_law_201 rfl (lv_at hl 3 rfl) ?_
        refine lv_iconst (v := 2) B.1 B.2.1 dL_law_202 (by decide) ?_
        refine lv_iadd B.1 B.2.1 dL_law_203 ?_
        refine va_sld B.1 B.2.1 hX hbl hbA Z.2.2.2.1 hw.1 dL_law_204 ?_
        have hw := hw.2
        refine io_call_i Z (io_runV (ci := 9) (k := 110) [.int (xs ((x3 + 1)).toNatClampNeg), .int (xs ((x3 + 2)).toNatClampNeg)] [] B Z (io_c_X9_permit l D ca ad A _ (xs ((x3 + 1)).toNatClampNeg) (xs ((x3 + 2)).toNatClampNeg) _ hw) io_k_L_23 ⟨Nat.le_of_ble_eq_true rfl, Nat.le_of_ble_eq_true rfl⟩ rfl (by decide) (io_e_110 _) rfl hl.1 (Nat.le_of_ble_eq_true rfl) dL_law_205 ⟨Nat.le_of_ble_eq_true rfl, Nat.le_of_ble_eq_true rfl⟩) (fun r24 s25 H locs hw Z => ?_)
        refine lv_pop B.1 B.2.1 dL_law_208 rfl ?_
        refine lv_aload_n B.1 B.2.1 dL_law_209 rfl (lv_at hl 2 rfl) ?_
        refine lv_aload_n B.1 B.2.1 dL_law_210 rfl (lv_at hl 0 rfl) ?_
        refine lv_iload_n B.1 B.2.1 dL_law_211 rfl (lv_at hl 3 rfl) ?_
        refine lv_iconst (v := 1) B.1 B.2.1 dL_law_212 (by decide) ?_
        refine lv_iadd B.1 B.2.1 dL_law_213 ?_
        refine va_sld B.1 B.2.1 hX hbl hbA Z.2.2.2.1 hw.1 dL_law_214 ?_
        have hw := hw.2
        refine lv_aload_n B.1 B.2.1 dL_law_215 rfl (lv_at hl 0 rfl) ?_
        refine lv_iload_n B.1 B.2.1 dL_law_216 rfl (lv_at hl 3 rfl) ?_
        refine lv_iconst (v := 2) B.1 B.2.1 dL_law_217 (by decide) ?_
        refine lv_iadd B.1 B.2.1 dL_law_218 ?_
        refine va_sld B.1 B.2.1 hX hbl hbA Z.2.2.2.1 hw.1 dL_law_219 ?_
        have hw := hw.2
        refine io_call_i Z (io_runV (ci := 10) (k := 111) [.int (xs ((x3 + 1)).toNatClampNeg), .int (xs ((x3 + 2)).toNatClampNeg)] [] B Z (io_c_X10_permit l D ca ad A _ (xs ((x3 + 1)).toNatClampNeg) (xs ((x3 + 2)).toNatClampNeg) _ hw) io_k_L_26 ⟨Nat.le_of_ble_eq_true rfl, Nat.le_of_ble_eq_true rfl⟩ rfl (by decide) (io_e_111 _) rfl hl.1 (Nat.le_of_ble_eq_true rfl) dL_law_220 ⟨Nat.le_of_ble_eq_true rfl, Nat.le_of_ble_eq_true rfl⟩) (fun r26 s27 H locs hw Z => ?_)
        refine lv_pop B.1 B.2.1 dL_law_223 rfl ?_
        refine lv_goto (tgt := 536) B.1 B.2.1 dL_law_224 (by decide) ?_
        refine lv_iinc (v := (x3 + 5)) (lv' := [(3, .int (x3 + 5)), (0, .ref b), (1, .ref (ad 110)), (2, .ref (ad 111))]) B.1 B.2.1 dL_law_536 hl (k := 3) rfl rfl (by decide) rfl (fun ls hl => ?_)
        refine lv_goto (tgt := 18) B.1 B.2.1 dL_law_539 (by decide) ?_
        exact IH18 _ (x3 + 5) hw _ _ Z _ (lv_sub (l' := [(0, .ref b), (1, .ref (ad 110)), (2, .ref (ad 111)), (3, .int (x3 + 5))]) hl [1, 2, 3, 0] rfl)
      have hw := hw.2 k23
      rcases Classical.em (((xs (x3).toNatClampNeg) &&& 15) = 3) with k28 | k28
      · have hw := hw.1 k28
        refine lv_tableIn (tgt := 227) (off := 195) B.1 B.2.1 dL_law_32 (by rw [k28]; decide) (by rw [k28]; decide) (by rw [k28]; decide) (by decide) ?_
        refine lv_aload_n B.1 B.2.1 dL_law_227 rfl (lv_at hl 1 rfl) ?_
        refine lv_aload_n B.1 B.2.1 dL_law_228 rfl (lv_at hl 0 rfl) ?_
        refine lv_iload_n B.1 B.2.1 dL_law_229 rfl (lv_at hl 3 rfl) ?_
        refine lv_iconst (v := 1) B.1 B.2.1 dL_law_230 (by decide) ?_
        refine lv_iadd B.1 B.2.1 dL_law_231 ?_
        refine va_sld B.1 B.2.1 hX hbl hbA Z.2.2.2.1 hw.1 dL_law_232 ?_
        have hw := hw.2
        refine io_call_i Z (io_runV (ci := 9) (k := 110) [.int (xs ((x3 + 1)).toNatClampNeg)] [] B Z (io_c_X9_input l D ca ad A _ (xs ((x3 + 1)).toNatClampNeg) _ hw) io_k_L_27 ⟨Nat.le_of_ble_eq_true rfl, Nat.le_of_ble_eq_true rfl⟩ rfl (by decide) (io_e_110 _) rfl hl.1 (Nat.le_of_ble_eq_true rfl) dL_law_233 ⟨Nat.le_of_ble_eq_true rfl, Nat.le_of_ble_eq_true rfl⟩) (fun r29 s30 H locs hw Z => ?_)
        refine lv_pop B.1 B.2.1 dL_law_236 rfl ?_
        refine lv_aload_n B.1 B.2.1 dL_law_237 rfl (lv_at hl 2 rfl) ?_
        refine lv_aload_n B.1 B.2.1 dL_law_238 rfl (lv_at hl 0 rfl) ?_
        refine lv_iload_n B.1 B.2.1 dL_law_239 rfl (lv_at hl 3 rfl) ?_
        refine lv_iconst (v := 1) B.1 B.2.1 dL_law_240 (by decide) ?_
        refine lv_iadd B.1 B.2.1 dL_law_241 ?_
        refine va_sld B.1 B.2.1 hX hbl hbA Z.2.2.2.1 hw.1 dL_law_242 ?_
        have hw := hw.2
        refine io_call_i Z (io_runV (ci := 10) (k := 111) [.int (xs ((x3 + 1)).toNatClampNeg)] [] B Z (io_c_X10_input l D ca ad A _ (xs ((x3 + 1)).toNatClampNeg) _ hw) io_k_L_31 ⟨Nat.le_of_ble_eq_true rfl, Nat.le_of_ble_eq_true rfl⟩ rfl (by decide) (io_e_111 _) rfl hl.1 (Nat.le_of_ble_eq_true rfl) dL_law_243 ⟨Nat.le_of_ble_eq_true rfl, Nat.le_of_ble_eq_true rfl⟩) (fun r31 s32 H locs hw Z => ?_)
        refine lv_pop B.1 B.2.1 dL_law_246 rfl ?_
        refine lv_goto (tgt := 536) B.1 B.2.1 dL_law_247 (by decide) ?_
        refine lv_iinc (v := (x3 + 5)) (lv' := [(3, .int (x3 + 5)), (0, .ref b), (1, .ref (ad 110)), (2, .ref (ad 111))]) B.1 B.2.1 dL_law_536 hl (k := 3) rfl rfl (by decide) rfl (fun ls hl => ?_)
        refine lv_goto (tgt := 18) B.1 B.2.1 dL_law_539 (by decide) ?_
        exact IH18 _ (x3 + 5) hw _ _ Z _ (lv_sub (l' := [(0, .ref b), (1, .ref (ad 110)), (2, .ref (ad 111)), (3, .int (x3 + 5))]) hl [1, 2, 3, 0] rfl)
      have hw := hw.2 k28
      rcases Classical.em (((xs (x3).toNatClampNeg) &&& 15) = 4) with k33 | k33
      · have hw := hw.1 k33
        refine lv_tableIn (tgt := 250) (off := 218) B.1 B.2.1 dL_law_32 (by rw [k33]; decide) (by rw [k33]; decide) (by rw [k33]; decide) (by decide) ?_
        refine lv_aload_n B.1 B.2.1 dL_law_250 rfl (lv_at hl 1 rfl) ?_
        refine lv_aload_n B.1 B.2.1 dL_law_251 rfl (lv_at hl 0 rfl) ?_
        refine lv_iload_n B.1 B.2.1 dL_law_252 rfl (lv_at hl 3 rfl) ?_
        refine lv_iconst (v := 1) B.1 B.2.1 dL_law_253 (by decide) ?_
        refine lv_iadd B.1 B.2.1 dL_law_254 ?_
        refine va_sld B.1 B.2.1 hX hbl hbA Z.2.2.2.1 hw.1 dL_law_255 ?_
        have hw := hw.2
        refine lv_aload_n B.1 B.2.1 dL_law_256 rfl (lv_at hl 0 rfl) ?_
        refine lv_iload_n B.1 B.2.1 dL_law_257 rfl (lv_at hl 3 rfl) ?_
        refine lv_iconst (v := 2) B.1 B.2.1 dL_law_258 (by decide) ?_
        refine lv_iadd B.1 B.2.1 dL_law_259 ?_
        refine va_sld B.1 B.2.1 hX hbl hbA Z.2.2.2.1 hw.1 dL_law_260 ?_
        have hw := hw.2
        refine lv_aload_n B.1 B.2.1 dL_law_261 rfl (lv_at hl 0 rfl) ?_
        refine lv_iload_n B.1 B.2.1 dL_law_262 rfl (lv_at hl 3 rfl) ?_
        refine lv_iconst (v := 3) B.1 B.2.1 dL_law_263 (by decide) ?_
        refine lv_iadd B.1 B.2.1 dL_law_264 ?_
        refine va_sld B.1 B.2.1 hX hbl hbA Z.2.2.2.1 hw.1 dL_law_265 ?_
        have hw := hw.2
        refine lv_aload_n B.1 B.2.1 dL_law_266 rfl (lv_at hl 0 rfl) ?_
        refine lv_iload_n B.1 B.2.1 dL_law_267 rfl (lv_at hl 3 rfl) ?_
        refine lv_iconst (v := 4) B.1 B.2.1 dL_law_268 (by decide) ?_
        refine lv_iadd B.1 B.2.1 dL_law_269 ?_
        refine va_sld B.1 B.2.1 hX hbl hbA Z.2.2.2.1 hw.1 dL_law_270 ?_
        have hw := hw.2
        refine io_call_i Z (io_runV (ci := 9) (k := 110) [.int (xs ((x3 + 1)).toNatClampNeg), .int (xs ((x3 + 2)).toNatClampNeg), .int (xs ((x3 + 3)).toNatClampNeg), .int (xs ((x3 + 4)).toNatClampNeg)] [] B Z (io_c_X9_node l D ca ad A _ (xs ((x3 + 1)).toNatClampNeg) (xs ((x3 + 2)).toNatClampNeg) (xs ((x3 + 3)).toNatClampNeg) (xs ((x3 + 4)).toNatClampNeg) _ hw) io_k_L_32 ⟨Nat.le_of_ble_eq_true rfl, Nat.le_of_ble_eq_true rfl⟩ rfl (by decide) (io_e_110 _) rfl hl.1 (Nat.le_of_ble_eq_true rfl) dL_law_271 ⟨Nat.le_of_ble_eq_true rfl, Nat.le_of_ble_eq_true rfl⟩) (fun r34 s35 H locs hw Z => ?_)
        refine lv_pop B.1 B.2.1 dL_law_274 rfl ?_
        refine lv_aload_n B.1 B.2.1 dL_law_275 rfl (lv_at hl 2 rfl) ?_
        refine lv_aload_n B.1 B.2.1 dL_law_276 rfl (lv_at hl 0 rfl) ?_
        refine lv_iload_n B.1 B.2.1 dL_law_277 rfl (lv_at hl 3 rfl) ?_
        refine lv_iconst (v := 1) B.1 B.2.1 dL_law_278 (by decide) ?_
        refine lv_iadd B.1 B.2.1 dL_law_279 ?_
        refine va_sld B.1 B.2.1 hX hbl hbA Z.2.2.2.1 hw.1 dL_law_280 ?_
        have hw := hw.2
        refine lv_aload_n B.1 B.2.1 dL_law_281 rfl (lv_at hl 0 rfl) ?_
        refine lv_iload_n B.1 B.2.1 dL_law_282 rfl (lv_at hl 3 rfl) ?_
        refine lv_iconst (v := 2) B.1 B.2.1 dL_law_283 (by decide) ?_
        refine lv_iadd B.1 B.2.1 dL_law_284 ?_
        refine va_sld B.1 B.2.1 hX hbl hbA Z.2.2.2.1 hw.1 dL_law_285 ?_
        have hw := hw.2
        refine lv_aload_n B.1 B.2.1 dL_law_286 rfl (lv_at hl 0 rfl) ?_
        refine lv_iload_n B.1 B.2.1 dL_law_287 rfl (lv_at hl 3 rfl) ?_
        refine lv_iconst (v := 3) B.1 B.2.1 dL_law_288 (by decide) ?_
        refine lv_iadd B.1 B.2.1 dL_law_289 ?_
        refine va_sld B.1 B.2.1 hX hbl hbA Z.2.2.2.1 hw.1 dL_law_290 ?_
        have hw := hw.2
        refine lv_aload_n B.1 B.2.1 dL_law_291 rfl (lv_at hl 0 rfl) ?_
        refine lv_iload_n B.1 B.2.1 dL_law_292 rfl (lv_at hl 3 rfl) ?_
        refine lv_iconst (v := 4) B.1 B.2.1 dL_law_293 (by decide) ?_
        refine lv_iadd B.1 B.2.1 dL_law_294 ?_
        refine va_sld B.1 B.2.1 hX hbl hbA Z.2.2.2.1 hw.1 dL_law_295 ?_
        have hw := hw.2
        refine io_call_i Z (io_runV (ci := 10) (k := 111) [.int (xs ((x3 + 1)).toNatClampNeg), .int (xs ((x3 + 2)).toNatClampNeg), .int (xs ((x3 + 3)).toNatClampNeg), .int (xs ((x3 + 4)).toNatClampNeg)] [] B Z (io_c_X10_node l D ca ad A _ (xs ((x3 + 1)).toNatClampNeg) (xs ((x3 + 2)).toNatClampNeg) (xs ((x3 + 3)).toNatClampNeg) (xs ((x3 + 4)).toNatClampNeg) _ hw) io_k_L_36 ⟨Nat.le_of_ble_eq_true rfl, Nat.le_of_ble_eq_true rfl⟩ rfl (by decide) (io_e_111 _) rfl hl.1 (Nat.le_of_ble_eq_true rfl) dL_law_296 ⟨Nat.le_of_ble_eq_true rfl, Nat.le_of_ble_eq_true rfl⟩) (fun r36 s37 H locs hw Z => ?_)
        refine lv_pop B.1 B.2.1 dL_law_299 rfl ?_
        refine lv_goto (tgt := 536) B.1 B.2.1 dL_law_300 (by decide) ?_
        refine lv_iinc (v := (x3 + 5)) (lv' := [(3, .int (x3 + 5)), (0, .ref b), (1, .ref (ad 110)), (2, .ref (ad 111))]) B.1 B.2.1 dL_law_536 hl (k := 3) rfl rfl (by decide) rfl (fun ls hl => ?_)
        refine lv_goto (tgt := 18) B.1 B.2.1 dL_law_539 (by decide) ?_
        exact IH18 _ (x3 + 5) hw _ _ Z _ (lv_sub (l' := [(0, .ref b), (1, .ref (ad 110)), (2, .ref (ad 111)), (3, .int (x3 + 5))]) hl [1, 2, 3, 0] rfl)
      have hw := hw.2 k33
      rcases Classical.em (((xs (x3).toNatClampNeg) &&& 15) = 5) with k38 | k38
      · have hw := hw.1 k38
        refine lv_tableIn (tgt := 303) (off := 271) B.1 B.2.1 dL_law_32 (by rw [k38]; decide) (by rw [k38]; decide) (by rw [k38]; decide) (by decide) ?_
        refine lv_aload_n B.1 B.2.1 dL_law_303 rfl (lv_at hl 1 rfl) ?_
        refine io_call_i Z (io_runV (ci := 9) (k := 110) [] [] B Z (io_c_X9_clear l D ca ad A _ _ hw) io_k_L_37 ⟨Nat.le_of_ble_eq_true rfl, Nat.le_of_ble_eq_true rfl⟩ rfl (by decide) (io_e_110 _) rfl hl.1 (Nat.le_of_ble_eq_true rfl) dL_law_304 ⟨Nat.le_of_ble_eq_true rfl, Nat.le_of_ble_eq_true rfl⟩) (fun r39 s40 H locs hw Z => ?_)
        refine lv_pop B.1 B.2.1 dL_law_307 rfl ?_
        refine lv_aload_n B.1 B.2.1 dL_law_308 rfl (lv_at hl 2 rfl) ?_
        refine io_call_i Z (io_runV (ci := 10) (k := 111) [] [] B Z (io_c_X10_clear l D ca ad A _ _ hw) io_k_L_41 ⟨Nat.le_of_ble_eq_true rfl, Nat.le_of_ble_eq_true rfl⟩ rfl (by decide) (io_e_111 _) rfl hl.1 (Nat.le_of_ble_eq_true rfl) dL_law_309 ⟨Nat.le_of_ble_eq_true rfl, Nat.le_of_ble_eq_true rfl⟩) (fun r41 s42 H locs hw Z => ?_)
        refine lv_pop B.1 B.2.1 dL_law_312 rfl ?_
        refine lv_goto (tgt := 536) B.1 B.2.1 dL_law_313 (by decide) ?_
        refine lv_iinc (v := (x3 + 5)) (lv' := [(3, .int (x3 + 5)), (0, .ref b), (1, .ref (ad 110)), (2, .ref (ad 111))]) B.1 B.2.1 dL_law_536 hl (k := 3) rfl rfl (by decide) rfl (fun ls hl => ?_)
        refine lv_goto (tgt := 18) B.1 B.2.1 dL_law_539 (by decide) ?_
        exact IH18 _ (x3 + 5) hw _ _ Z _ (lv_sub (l' := [(0, .ref b), (1, .ref (ad 110)), (2, .ref (ad 111)), (3, .int (x3 + 5))]) hl [1, 2, 3, 0] rfl)
      have hw := hw.2 k38
      rcases Classical.em (((xs (x3).toNatClampNeg) &&& 15) = 6) with k43 | k43
      · have hw := hw.1 k43
        refine lv_tableIn (tgt := 316) (off := 284) B.1 B.2.1 dL_law_32 (by rw [k43]; decide) (by rw [k43]; decide) (by rw [k43]; decide) (by decide) ?_
        refine lv_aload_n B.1 B.2.1 dL_law_316 rfl (lv_at hl 1 rfl) ?_
        refine lv_aload_n B.1 B.2.1 dL_law_317 rfl (lv_at hl 0 rfl) ?_
        refine lv_iload_n B.1 B.2.1 dL_law_318 rfl (lv_at hl 3 rfl) ?_
        refine lv_iconst (v := 1) B.1 B.2.1 dL_law_319 (by decide) ?_
        refine lv_iadd B.1 B.2.1 dL_law_320 ?_
        refine va_sld B.1 B.2.1 hX hbl hbA Z.2.2.2.1 hw.1 dL_law_321 ?_
        have hw := hw.2
        refine io_call_i Z (io_runV (ci := 9) (k := 110) [.int (xs ((x3 + 1)).toNatClampNeg)] [] B Z (io_c_X9_run l D ca ad A _ (xs ((x3 + 1)).toNatClampNeg) _ hw) io_k_L_42 ⟨Nat.le_of_ble_eq_true rfl, Nat.le_of_ble_eq_true rfl⟩ rfl (by decide) (io_e_110 _) rfl hl.1 (Nat.le_of_ble_eq_true rfl) dL_law_322 ⟨Nat.le_of_ble_eq_true rfl, Nat.le_of_ble_eq_true rfl⟩) (fun r44 s45 H locs hw Z => ?_)
        refine lv_pop B.1 B.2.1 dL_law_325 rfl ?_
        refine lv_aload_n B.1 B.2.1 dL_law_326 rfl (lv_at hl 2 rfl) ?_
        refine lv_aload_n B.1 B.2.1 dL_law_327 rfl (lv_at hl 0 rfl) ?_
        refine lv_iload_n B.1 B.2.1 dL_law_328 rfl (lv_at hl 3 rfl) ?_
        refine lv_iconst (v := 1) B.1 B.2.1 dL_law_329 (by decide) ?_
        refine lv_iadd B.1 B.2.1 dL_law_330 ?_
        refine va_sld B.1 B.2.1 hX hbl hbA Z.2.2.2.1 hw.1 dL_law_331 ?_
        have hw := hw.2
        refine io_call_i Z (io_runV (ci := 10) (k := 111) [.int (xs ((x3 + 1)).toNatClampNeg)] [] B Z (io_c_X10_run l D ca ad A _ (xs ((x3 + 1)).toNatClampNeg) _ hw) io_k_L_45 ⟨Nat.le_of_ble_eq_true rfl, Nat.le_of_ble_eq_true rfl⟩ rfl (by decide) (io_e_111 _) rfl hl.1 (Nat.le_of_ble_eq_true rfl) dL_law_332 ⟨Nat.le_of_ble_eq_true rfl, Nat.le_of_ble_eq_true rfl⟩) (fun r46 s47 H locs hw Z => ?_)
        refine lv_pop B.1 B.2.1 dL_law_335 rfl ?_
        refine lv_goto (tgt := 536) B.1 B.2.1 dL_law_336 (by decide) ?_
        refine lv_iinc (v := (x3 + 5)) (lv' := [(3, .int (x3 + 5)), (0, .ref b), (1, .ref (ad 110)), (2, .ref (ad 111))]) B.1 B.2.1 dL_law_536 hl (k := 3) rfl rfl (by decide) rfl (fun ls hl => ?_)
        refine lv_goto (tgt := 18) B.1 B.2.1 dL_law_539 (by decide) ?_
        exact IH18 _ (x3 + 5) hw _ _ Z _ (lv_sub (l' := [(0, .ref b), (1, .ref (ad 110)), (2, .ref (ad 111)), (3, .int (x3 + 5))]) hl [1, 2, 3, 0] rfl)
      have hw := hw.2 k43
      rcases Classical.em (((xs (x3).toNatClampNeg) &&& 15) = 7) with k48 | k48
      · have hw := hw.1 k48
        refine lv_tableIn (tgt := 339) (off := 307) B.1 B.2.1 dL_law_32 (by rw [k48]; decide) (by rw [k48]; decide) (by rw [k48]; decide) (by decide) ?_
        refine lv_aload_n B.1 B.2.1 dL_law_339 rfl (lv_at hl 1 rfl) ?_
        refine io_call_i Z (io_runV (ci := 9) (k := 110) [] [] B Z (io_c_X9_value l D ca ad A _ _ hw) io_k_L_46 ⟨Nat.le_of_ble_eq_true rfl, Nat.le_of_ble_eq_true rfl⟩ rfl (by decide) (io_e_110 _) rfl hl.1 (Nat.le_of_ble_eq_true rfl) dL_law_340 ⟨Nat.le_of_ble_eq_true rfl, Nat.le_of_ble_eq_true rfl⟩) (fun r49 s50 H locs hw Z => ?_)
        refine lv_pop B.1 B.2.1 dL_law_343 rfl ?_
        refine lv_aload_n B.1 B.2.1 dL_law_344 rfl (lv_at hl 2 rfl) ?_
        refine io_call_i Z (io_runV (ci := 10) (k := 111) [] [] B Z (io_c_X10_value l D ca ad A _ _ hw) io_k_L_49 ⟨Nat.le_of_ble_eq_true rfl, Nat.le_of_ble_eq_true rfl⟩ rfl (by decide) (io_e_111 _) rfl hl.1 (Nat.le_of_ble_eq_true rfl) dL_law_345 ⟨Nat.le_of_ble_eq_true rfl, Nat.le_of_ble_eq_true rfl⟩) (fun r51 s52 H locs hw Z => ?_)
        refine lv_pop B.1 B.2.1 dL_law_348 rfl ?_
        refine lv_goto (tgt := 536) B.1 B.2.1 dL_law_349 (by decide) ?_
        refine lv_iinc (v := (x3 + 5)) (lv' := [(3, .int (x3 + 5)), (0, .ref b), (1, .ref (ad 110)), (2, .ref (ad 111))]) B.1 B.2.1 dL_law_536 hl (k := 3) rfl rfl (by decide) rfl (fun ls hl => ?_)
        refine lv_goto (tgt := 18) B.1 B.2.1 dL_law_539 (by decide) ?_
        exact IH18 _ (x3 + 5) hw _ _ Z _ (lv_sub (l' := [(0, .ref b), (1, .ref (ad 110)), (2, .ref (ad 111)), (3, .int (x3 + 5))]) hl [1, 2, 3, 0] rfl)
      have hw := hw.2 k48
      rcases Classical.em (((xs (x3).toNatClampNeg) &&& 15) = 8) with k53 | k53
      · have hw := hw.1 k53
        refine lv_tableIn (tgt := 352) (off := 320) B.1 B.2.1 dL_law_32 (by rw [k53]; decide) (by rw [k53]; decide) (by rw [k53]; decide) (by decide) ?_
        refine lv_aload_n B.1 B.2.1 dL_law_352 rfl (lv_at hl 1 rfl) ?_
        refine io_call_i Z (io_runV (ci := 9) (k := 110) [] [] B Z (io_c_X9_where l D ca ad A _ _ hw) io_k_L_50 ⟨Nat.le_of_ble_eq_true rfl, Nat.le_of_ble_eq_true rfl⟩ rfl (by decide) (io_e_110 _) rfl hl.1 (Nat.le_of_ble_eq_true rfl) dL_law_353 ⟨Nat.le_of_ble_eq_true rfl, Nat.le_of_ble_eq_true rfl⟩) (fun r54 s55 H locs hw Z => ?_)
        refine lv_pop B.1 B.2.1 dL_law_356 rfl ?_
        refine lv_aload_n B.1 B.2.1 dL_law_357 rfl (lv_at hl 2 rfl) ?_
        refine io_call_i Z (io_runV (ci := 10) (k := 111) [] [] B Z (io_c_X10_where l D ca ad A _ _ hw) io_k_L_53 ⟨Nat.le_of_ble_eq_true rfl, Nat.le_of_ble_eq_true rfl⟩ rfl (by decide) (io_e_111 _) rfl hl.1 (Nat.le_of_ble_eq_true rfl) dL_law_358 ⟨Nat.le_of_ble_eq_true rfl, Nat.le_of_ble_eq_true rfl⟩) (fun r56 s57 H locs hw Z => ?_)
        refine lv_pop B.1 B.2.1 dL_law_361 rfl ?_
        refine lv_goto (tgt := 536) B.1 B.2.1 dL_law_362 (by decide) ?_
        refine lv_iinc (v := (x3 + 5)) (lv' := [(3, .int (x3 + 5)), (0, .ref b), (1, .ref (ad 110)), (2, .ref (ad 111))]) B.1 B.2.1 dL_law_536 hl (k := 3) rfl rfl (by decide) rfl (fun ls hl => ?_)
        refine lv_goto (tgt := 18) B.1 B.2.1 dL_law_539 (by decide) ?_
        exact IH18 _ (x3 + 5) hw _ _ Z _ (lv_sub (l' := [(0, .ref b), (1, .ref (ad 110)), (2, .ref (ad 111)), (3, .int (x3 + 5))]) hl [1, 2, 3, 0] rfl)
      have hw := hw.2 k53
      rcases Classical.em (((xs (x3).toNatClampNeg) &&& 15) = 9) with k58 | k58
      · have hw := hw.1 k58
        refine lv_tableIn (tgt := 365) (off := 333) B.1 B.2.1 dL_law_32 (by rw [k58]; decide) (by rw [k58]; decide) (by rw [k58]; decide) (by decide) ?_
        refine lv_aload_n B.1 B.2.1 dL_law_365 rfl (lv_at hl 1 rfl) ?_
        refine io_call_i Z (io_runV (ci := 9) (k := 110) [] [] B Z (io_c_X9_worked l D ca ad A _ _ hw) io_k_L_54 ⟨Nat.le_of_ble_eq_true rfl, Nat.le_of_ble_eq_true rfl⟩ rfl (by decide) (io_e_110 _) rfl hl.1 (Nat.le_of_ble_eq_true rfl) dL_law_366 ⟨Nat.le_of_ble_eq_true rfl, Nat.le_of_ble_eq_true rfl⟩) (fun r59 s60 H locs hw Z => ?_)
        refine lv_pop B.1 B.2.1 dL_law_369 rfl ?_
        refine lv_aload_n B.1 B.2.1 dL_law_370 rfl (lv_at hl 2 rfl) ?_
        refine io_call_i Z (io_runV (ci := 10) (k := 111) [] [] B Z (io_c_X10_worked l D ca ad A _ _ hw) io_k_L_57 ⟨Nat.le_of_ble_eq_true rfl, Nat.le_of_ble_eq_true rfl⟩ rfl (by decide) (io_e_111 _) rfl hl.1 (Nat.le_of_ble_eq_true rfl) dL_law_371 ⟨Nat.le_of_ble_eq_true rfl, Nat.le_of_ble_eq_true rfl⟩) (fun r61 s62 H locs hw Z => ?_)
        refine lv_pop B.1 B.2.1 dL_law_374 rfl ?_
        refine lv_goto (tgt := 536) B.1 B.2.1 dL_law_375 (by decide) ?_
        refine lv_iinc (v := (x3 + 5)) (lv' := [(3, .int (x3 + 5)), (0, .ref b), (1, .ref (ad 110)), (2, .ref (ad 111))]) B.1 B.2.1 dL_law_536 hl (k := 3) rfl rfl (by decide) rfl (fun ls hl => ?_)
        refine lv_goto (tgt := 18) B.1 B.2.1 dL_law_539 (by decide) ?_
        exact IH18 _ (x3 + 5) hw _ _ Z _ (lv_sub (l' := [(0, .ref b), (1, .ref (ad 110)), (2, .ref (ad 111)), (3, .int (x3 + 5))]) hl [1, 2, 3, 0] rfl)
      have hw := hw.2 k58
      rcases Classical.em (((xs (x3).toNatClampNeg) &&& 15) = 10) with k63 | k63
      · have hw := hw.1 k63
        refine lv_tableIn (tgt := 378) (off := 346) B.1 B.2.1 dL_law_32 (by rw [k63]; decide) (by rw [k63]; decide) (by rw [k63]; decide) (by decide) ?_
        refine lv_aload_n B.1 B.2.1 dL_law_378 rfl (lv_at hl 1 rfl) ?_
        refine lv_aload_n B.1 B.2.1 dL_law_379 rfl (lv_at hl 0 rfl) ?_
        refine lv_iload_n B.1 B.2.1 dL_law_380 rfl (lv_at hl 3 rfl) ?_
        refine lv_iconst (v := 1) B.1 B.2.1 dL_law_381 (by decide) ?_
        refine lv_iadd B.1 B.2.1 dL_law_382 ?_
        refine va_sld B.1 B.2.1 hX hbl hbA Z.2.2.2.1 hw.1 dL_law_383 ?_
        have hw := hw.2
        refine io_call_i Z (io_runV (ci := 9) (k := 110) [.int (xs ((x3 + 1)).toNatClampNeg)] [] B Z (io_c_X9_order l D ca ad A _ (xs ((x3 + 1)).toNatClampNeg) _ hw) io_k_L_58 ⟨Nat.le_of_ble_eq_true rfl, Nat.le_of_ble_eq_true rfl⟩ rfl (by decide) (io_e_110 _) rfl hl.1 (Nat.le_of_ble_eq_true rfl) dL_law_384 ⟨Nat.le_of_ble_eq_true rfl, Nat.le_of_ble_eq_true rfl⟩) (fun r64 s65 H locs hw Z => ?_)
        refine lv_pop B.1 B.2.1 dL_law_387 rfl ?_
        refine lv_aload_n B.1 B.2.1 dL_law_388 rfl (lv_at hl 2 rfl) ?_
        refine lv_aload_n B.1 B.2.1 dL_law_389 rfl (lv_at hl 0 rfl) ?_
        refine lv_iload_n B.1 B.2.1 dL_law_390 rfl (lv_at hl 3 rfl) ?_
        refine lv_iconst (v := 1) B.1 B.2.1 dL_law_391 (by decide) ?_
        refine lv_iadd B.1 B.2.1 dL_law_392 ?_
        refine va_sld B.1 B.2.1 hX hbl hbA Z.2.2.2.1 hw.1 dL_law_393 ?_
        have hw := hw.2
        refine io_call_i Z (io_runV (ci := 10) (k := 111) [.int (xs ((x3 + 1)).toNatClampNeg)] [] B Z (io_c_X10_order l D ca ad A _ (xs ((x3 + 1)).toNatClampNeg) _ hw) io_k_L_61 ⟨Nat.le_of_ble_eq_true rfl, Nat.le_of_ble_eq_true rfl⟩ rfl (by decide) (io_e_111 _) rfl hl.1 (Nat.le_of_ble_eq_true rfl) dL_law_394 ⟨Nat.le_of_ble_eq_true rfl, Nat.le_of_ble_eq_true rfl⟩) (fun r66 s67 H locs hw Z => ?_)
        refine lv_pop B.1 B.2.1 dL_law_397 rfl ?_
        refine lv_goto (tgt := 536) B.1 B.2.1 dL_law_398 (by decide) ?_
        refine lv_iinc (v := (x3 + 5)) (lv' := [(3, .int (x3 + 5)), (0, .ref b), (1, .ref (ad 110)), (2, .ref (ad 111))]) B.1 B.2.1 dL_law_536 hl (k := 3) rfl rfl (by decide) rfl (fun ls hl => ?_)
        refine lv_goto (tgt := 18) B.1 B.2.1 dL_law_539 (by decide) ?_
        exact IH18 _ (x3 + 5) hw _ _ Z _ (lv_sub (l' := [(0, .ref b), (1, .ref (ad 110)), (2, .ref (ad 111)), (3, .int (x3 + 5))]) hl [1, 2, 3, 0] rfl)
      have hw := hw.2 k63
      rcases Classical.em (((xs (x3).toNatClampNeg) &&& 15) = 11) with k68 | k68
      · have hw := hw.1 k68
        refine lv_tableIn (tgt := 401) (off := 369) B.1 B.2.1 dL_law_32 (by rw [k68]; decide) (by rw [k68]; decide) (by rw [k68]; decide) (by decide) ?_
        refine lv_aload_n B.1 B.2.1 dL_law_401 rfl (lv_at hl 1 rfl) ?_
        refine lv_aload_n B.1 B.2.1 dL_law_402 rfl (lv_at hl 0 rfl) ?_
        refine lv_iload_n B.1 B.2.1 dL_law_403 rfl (lv_at hl 3 rfl) ?_
        refine lv_iconst (v := 1) B.1 B.2.1 dL_law_404 (by decide) ?_
        refine lv_iadd B.1 B.2.1 dL_law_405 ?_
        refine va_sld B.1 B.2.1 hX hbl hbA Z.2.2.2.1 hw.1 dL_law_406 ?_
        have hw := hw.2
        refine lv_aload_n B.1 B.2.1 dL_law_407 rfl (lv_at hl 0 rfl) ?_
        refine lv_iload_n B.1 B.2.1 dL_law_408 rfl (lv_at hl 3 rfl) ?_
        refine lv_iconst (v := 2) B.1 B.2.1 dL_law_409 (by decide) ?_
        refine lv_iadd B.1 B.2.1 dL_law_410 ?_
        refine va_sld B.1 B.2.1 hX hbl hbA Z.2.2.2.1 hw.1 dL_law_411 ?_
        have hw := hw.2
        refine io_call_i Z (io_runV (ci := 9) (k := 110) [.int (xs ((x3 + 1)).toNatClampNeg), .int (xs ((x3 + 2)).toNatClampNeg)] [] B Z (io_c_X9_handle l D ca ad A _ (xs ((x3 + 1)).toNatClampNeg) (xs ((x3 + 2)).toNatClampNeg) _ hw) io_k_L_62 ⟨Nat.le_of_ble_eq_true rfl, Nat.le_of_ble_eq_true rfl⟩ rfl (by decide) (io_e_110 _) rfl hl.1 (Nat.le_of_ble_eq_true rfl) dL_law_412 ⟨Nat.le_of_ble_eq_true rfl, Nat.le_of_ble_eq_true rfl⟩) (fun r69 s70 H locs hw Z => ?_)
        refine lv_pop B.1 B.2.1 dL_law_415 rfl ?_
        refine lv_aload_n B.1 B.2.1 dL_law_416 rfl (lv_at hl 2 rfl) ?_
        refine lv_aload_n B.1 B.2.1 dL_law_417 rfl (lv_at hl 0 rfl) ?_
        refine lv_iload_n B.1 B.2.1 dL_law_418 rfl (lv_at hl 3 rfl) ?_
        refine lv_iconst (v := 1) B.1 B.2.1 dL_law_419 (by decide) ?_
        refine lv_iadd B.1 B.2.1 dL_law_420 ?_
        refine va_sld B.1 B.2.1 hX hbl hbA Z.2.2.2.1 hw.1 dL_law_421 ?_
        have hw := hw.2
        refine lv_aload_n B.1 B.2.1 dL_law_422 rfl (lv_at hl 0 rfl) ?_
        refine lv_iload_n B.1 B.2.1 dL_law_423 rfl (lv_at hl 3 rfl) ?_
        refine lv_iconst (v := 2) B.1 B.2.1 dL_law_424 (by decide) ?_
        refine lv_iadd B.1 B.2.1 dL_law_425 ?_
        refine va_sld B.1 B.2.1 hX hbl hbA Z.2.2.2.1 hw.1 dL_law_426 ?_
        have hw := hw.2
        refine io_call_i Z (io_runV (ci := 10) (k := 111) [.int (xs ((x3 + 1)).toNatClampNeg), .int (xs ((x3 + 2)).toNatClampNeg)] [] B Z (io_c_X10_handle l D ca ad A _ (xs ((x3 + 1)).toNatClampNeg) (xs ((x3 + 2)).toNatClampNeg) _ hw) io_k_L_65 ⟨Nat.le_of_ble_eq_true rfl, Nat.le_of_ble_eq_true rfl⟩ rfl (by decide) (io_e_111 _) rfl hl.1 (Nat.le_of_ble_eq_true rfl) dL_law_427 ⟨Nat.le_of_ble_eq_true rfl, Nat.le_of_ble_eq_true rfl⟩) (fun r71 s72 H locs hw Z => ?_)
        refine lv_pop B.1 B.2.1 dL_law_430 rfl ?_
        refine lv_goto (tgt := 536) B.1 B.2.1 dL_law_431 (by decide) ?_
        refine lv_iinc (v := (x3 + 5)) (lv' := [(3, .int (x3 + 5)), (0, .ref b), (1, .ref (ad 110)), (2, .ref (ad 111))]) B.1 B.2.1 dL_law_536 hl (k := 3) rfl rfl (by decide) rfl (fun ls hl => ?_)
        refine lv_goto (tgt := 18) B.1 B.2.1 dL_law_539 (by decide) ?_
        exact IH18 _ (x3 + 5) hw _ _ Z _ (lv_sub (l' := [(0, .ref b), (1, .ref (ad 110)), (2, .ref (ad 111)), (3, .int (x3 + 5))]) hl [1, 2, 3, 0] rfl)
      have hw := hw.2 k68
      rcases Classical.em (((xs (x3).toNatClampNeg) &&& 15) = 12) with k73 | k73
      · have hw := hw.1 k73
        refine lv_tableIn (tgt := 434) (off := 402) B.1 B.2.1 dL_law_32 (by rw [k73]; decide) (by rw [k73]; decide) (by rw [k73]; decide) (by decide) ?_
        refine lv_aload_n B.1 B.2.1 dL_law_434 rfl (lv_at hl 1 rfl) ?_
        refine lv_aload_n B.1 B.2.1 dL_law_435 rfl (lv_at hl 0 rfl) ?_
        refine lv_iload_n B.1 B.2.1 dL_law_436 rfl (lv_at hl 3 rfl) ?_
        refine lv_iconst (v := 1) B.1 B.2.1 dL_law_437 (by decide) ?_
        refine lv_iadd B.1 B.2.1 dL_law_438 ?_
        refine va_sld B.1 B.2.1 hX hbl hbA Z.2.2.2.1 hw.1 dL_law_439 ?_
        have hw := hw.2
        refine lv_aload_n B.1 B.2.1 dL_law_440 rfl (lv_at hl 0 rfl) ?_
        refine lv_iload_n B.1 B.2.1 dL_law_441 rfl (lv_at hl 3 rfl) ?_
        refine lv_iconst (v := 2) B.1 B.2.1 dL_law_442 (by decide) ?_
        refine lv_iadd B.1 B.2.1 dL_law_443 ?_
        refine va_sld B.1 B.2.1 hX hbl hbA Z.2.2.2.1 hw.1 dL_law_444 ?_
        have hw := hw.2
        refine io_call_i Z (io_runV (ci := 9) (k := 110) [.int (xs ((x3 + 1)).toNatClampNeg), .int (xs ((x3 + 2)).toNatClampNeg)] [] B Z (io_c_X9_content l D ca ad A _ (xs ((x3 + 1)).toNatClampNeg) (xs ((x3 + 2)).toNatClampNeg) _ hw) io_k_L_66 ⟨Nat.le_of_ble_eq_true rfl, Nat.le_of_ble_eq_true rfl⟩ rfl (by decide) (io_e_110 _) rfl hl.1 (Nat.le_of_ble_eq_true rfl) dL_law_445 ⟨Nat.le_of_ble_eq_true rfl, Nat.le_of_ble_eq_true rfl⟩) (fun r74 s75 H locs hw Z => ?_)
        refine lv_pop B.1 B.2.1 dL_law_448 rfl ?_
        refine lv_aload_n B.1 B.2.1 dL_law_449 rfl (lv_at hl 2 rfl) ?_
        refine lv_aload_n B.1 B.2.1 dL_law_450 rfl (lv_at hl 0 rfl) ?_
        refine lv_iload_n B.1 B.2.1 dL_law_451 rfl (lv_at hl 3 rfl) ?_
        refine lv_iconst (v := 1) B.1 B.2.1 dL_law_452 (by decide) ?_
        refine lv_iadd B.1 B.2.1 dL_law_453 ?_
        refine va_sld B.1 B.2.1 hX hbl hbA Z.2.2.2.1 hw.1 dL_law_454 ?_
        have hw := hw.2
        refine lv_aload_n B.1 B.2.1 dL_law_455 rfl (lv_at hl 0 rfl) ?_
        refine lv_iload_n B.1 B.2.1 dL_law_456 rfl (lv_at hl 3 rfl) ?_
        refine lv_iconst (v := 2) B.1 B.2.1 dL_law_457 (by decide) ?_
        refine lv_iadd B.1 B.2.1 dL_law_458 ?_
        refine va_sld B.1 B.2.1 hX hbl hbA Z.2.2.2.1 hw.1 dL_law_459 ?_
        have hw := hw.2
        refine io_call_i Z (io_runV (ci := 10) (k := 111) [.int (xs ((x3 + 1)).toNatClampNeg), .int (xs ((x3 + 2)).toNatClampNeg)] [] B Z (io_c_X10_content l D ca ad A _ (xs ((x3 + 1)).toNatClampNeg) (xs ((x3 + 2)).toNatClampNeg) _ hw) io_k_L_69 ⟨Nat.le_of_ble_eq_true rfl, Nat.le_of_ble_eq_true rfl⟩ rfl (by decide) (io_e_111 _) rfl hl.1 (Nat.le_of_ble_eq_true rfl) dL_law_460 ⟨Nat.le_of_ble_eq_true rfl, Nat.le_of_ble_eq_true rfl⟩) (fun r76 s77 H locs hw Z => ?_)
        refine lv_pop B.1 B.2.1 dL_law_463 rfl ?_
        refine lv_goto (tgt := 536) B.1 B.2.1 dL_law_464 (by decide) ?_
        refine lv_iinc (v := (x3 + 5)) (lv' := [(3, .int (x3 + 5)), (0, .ref b), (1, .ref (ad 110)), (2, .ref (ad 111))]) B.1 B.2.1 dL_law_536 hl (k := 3) rfl rfl (by decide) rfl (fun ls hl => ?_)
        refine lv_goto (tgt := 18) B.1 B.2.1 dL_law_539 (by decide) ?_
        exact IH18 _ (x3 + 5) hw _ _ Z _ (lv_sub (l' := [(0, .ref b), (1, .ref (ad 110)), (2, .ref (ad 111)), (3, .int (x3 + 5))]) hl [1, 2, 3, 0] rfl)
      have hw := hw.2 k73
      rcases Classical.em (((xs (x3).toNatClampNeg) &&& 15) = 13) with k78 | k78
      · have hw := hw.1 k78
        refine lv_tableIn (tgt := 467) (off := 435) B.1 B.2.1 dL_law_32 (by rw [k78]; decide) (by rw [k78]; decide) (by rw [k78]; decide) (by decide) ?_
        refine lv_aload_n B.1 B.2.1 dL_law_467 rfl (lv_at hl 1 rfl) ?_
        refine lv_aload_n B.1 B.2.1 dL_law_468 rfl (lv_at hl 0 rfl) ?_
        refine lv_iload_n B.1 B.2.1 dL_law_469 rfl (lv_at hl 3 rfl) ?_
        refine lv_iconst (v := 1) B.1 B.2.1 dL_law_470 (by decide) ?_
        refine lv_iadd B.1 B.2.1 dL_law_471 ?_
        refine va_sld B.1 B.2.1 hX hbl hbA Z.2.2.2.1 hw.1 dL_law_472 ?_
        have hw := hw.2
        refine io_call_i Z (io_runV (ci := 9) (k := 110) [.int (xs ((x3 + 1)).toNatClampNeg)] [] B Z (io_c_X9_size l D ca ad A _ (xs ((x3 + 1)).toNatClampNeg) _ hw) io_k_L_70 ⟨Nat.le_of_ble_eq_true rfl, Nat.le_of_ble_eq_true rfl⟩ rfl (by decide) (io_e_110 _) rfl hl.1 (Nat.le_of_ble_eq_true rfl) dL_law_473 ⟨Nat.le_of_ble_eq_true rfl, Nat.le_of_ble_eq_true rfl⟩) (fun r79 s80 H locs hw Z => ?_)
        refine lv_pop B.1 B.2.1 dL_law_476 rfl ?_
        refine lv_aload_n B.1 B.2.1 dL_law_477 rfl (lv_at hl 2 rfl) ?_
        refine lv_aload_n B.1 B.2.1 dL_law_478 rfl (lv_at hl 0 rfl) ?_
        refine lv_iload_n B.1 B.2.1 dL_law_479 rfl (lv_at hl 3 rfl) ?_
        refine lv_iconst (v := 1) B.1 B.2.1 dL_law_480 (by decide) ?_
        refine lv_iadd B.1 B.2.1 dL_law_481 ?_
        refine va_sld B.1 B.2.1 hX hbl hbA Z.2.2.2.1 hw.1 dL_law_482 ?_
        have hw := hw.2
        refine io_call_i Z (io_runV (ci := 10) (k := 111) [.int (xs ((x3 + 1)).toNatClampNeg)] [] B Z (io_c_X10_size l D ca ad A _ (xs ((x3 + 1)).toNatClampNeg) _ hw) io_k_L_73 ⟨Nat.le_of_ble_eq_true rfl, Nat.le_of_ble_eq_true rfl⟩ rfl (by decide) (io_e_111 _) rfl hl.1 (Nat.le_of_ble_eq_true rfl) dL_law_483 ⟨Nat.le_of_ble_eq_true rfl, Nat.le_of_ble_eq_true rfl⟩) (fun r81 s82 H locs hw Z => ?_)
        refine lv_pop B.1 B.2.1 dL_law_486 rfl ?_
        refine lv_goto (tgt := 536) B.1 B.2.1 dL_law_487 (by decide) ?_
        refine lv_iinc (v := (x3 + 5)) (lv' := [(3, .int (x3 + 5)), (0, .ref b), (1, .ref (ad 110)), (2, .ref (ad 111))]) B.1 B.2.1 dL_law_536 hl (k := 3) rfl rfl (by decide) rfl (fun ls hl => ?_)
        refine lv_goto (tgt := 18) B.1 B.2.1 dL_law_539 (by decide) ?_
        exact IH18 _ (x3 + 5) hw _ _ Z _ (lv_sub (l' := [(0, .ref b), (1, .ref (ad 110)), (2, .ref (ad 111)), (3, .int (x3 + 5))]) hl [1, 2, 3, 0] rfl)
      have hw := hw.2 k78
      rcases Classical.em (((xs (x3).toNatClampNeg) &&& 15) = 14) with k83 | k83
      · have hw := hw.1 k83
        refine lv_tableIn (tgt := 490) (off := 458) B.1 B.2.1 dL_law_32 (by rw [k83]; decide) (by rw [k83]; decide) (by rw [k83]; decide) (by decide) ?_
        refine lv_aload_n B.1 B.2.1 dL_law_490 rfl (lv_at hl 1 rfl) ?_
        refine lv_aload_n B.1 B.2.1 dL_law_491 rfl (lv_at hl 0 rfl) ?_
        refine lv_iload_n B.1 B.2.1 dL_law_492 rfl (lv_at hl 3 rfl) ?_
        refine lv_iconst (v := 1) B.1 B.2.1 dL_law_493 (by decide) ?_
        refine lv_iadd B.1 B.2.1 dL_law_494 ?_
        refine va_sld B.1 B.2.1 hX hbl hbA Z.2.2.2.1 hw.1 dL_law_495 ?_
        have hw := hw.2
        refine io_call_i Z (io_runV (ci := 9) (k := 110) [.int (xs ((x3 + 1)).toNatClampNeg)] [] B Z (io_c_X9_printed l D ca ad A _ (xs ((x3 + 1)).toNatClampNeg) _ hw) io_k_L_74 ⟨Nat.le_of_ble_eq_true rfl, Nat.le_of_ble_eq_true rfl⟩ rfl (by decide) (io_e_110 _) rfl hl.1 (Nat.le_of_ble_eq_true rfl) dL_law_496 ⟨Nat.le_of_ble_eq_true rfl, Nat.le_of_ble_eq_true rfl⟩) (fun r84 s85 H locs hw Z => ?_)
        refine lv_pop B.1 B.2.1 dL_law_499 rfl ?_
        refine lv_aload_n B.1 B.2.1 dL_law_500 rfl (lv_at hl 2 rfl) ?_
        refine lv_aload_n B.1 B.2.1 dL_law_501 rfl (lv_at hl 0 rfl) ?_
        refine lv_iload_n B.1 B.2.1 dL_law_502 rfl (lv_at hl 3 rfl) ?_
        refine lv_iconst (v := 1) B.1 B.2.1 dL_law_503 (by decide) ?_
        refine lv_iadd B.1 B.2.1 dL_law_504 ?_
        refine va_sld B.1 B.2.1 hX hbl hbA Z.2.2.2.1 hw.1 dL_law_505 ?_
        have hw := hw.2
        refine io_call_i Z (io_runV (ci := 10) (k := 111) [.int (xs ((x3 + 1)).toNatClampNeg)] [] B Z (io_c_X10_printed l D ca ad A _ (xs ((x3 + 1)).toNatClampNeg) _ hw) io_k_L_77 ⟨Nat.le_of_ble_eq_true rfl, Nat.le_of_ble_eq_true rfl⟩ rfl (by decide) (io_e_111 _) rfl hl.1 (Nat.le_of_ble_eq_true rfl) dL_law_506 ⟨Nat.le_of_ble_eq_true rfl, Nat.le_of_ble_eq_true rfl⟩) (fun r86 s87 H locs hw Z => ?_)
        refine lv_pop B.1 B.2.1 dL_law_509 rfl ?_
        refine lv_goto (tgt := 536) B.1 B.2.1 dL_law_510 (by decide) ?_
        refine lv_iinc (v := (x3 + 5)) (lv' := [(3, .int (x3 + 5)), (0, .ref b), (1, .ref (ad 110)), (2, .ref (ad 111))]) B.1 B.2.1 dL_law_536 hl (k := 3) rfl rfl (by decide) rfl (fun ls hl => ?_)
        refine lv_goto (tgt := 18) B.1 B.2.1 dL_law_539 (by decide) ?_
        exact IH18 _ (x3 + 5) hw _ _ Z _ (lv_sub (l' := [(0, .ref b), (1, .ref (ad 110)), (2, .ref (ad 111)), (3, .int (x3 + 5))]) hl [1, 2, 3, 0] rfl)
      have hw := hw.2 k83
      rcases Classical.em (((xs (x3).toNatClampNeg) &&& 15) = 15) with k88 | k88
      · have hw := hw.1 k88
        refine lv_tableIn (tgt := 513) (off := 481) B.1 B.2.1 dL_law_32 (by rw [k88]; decide) (by rw [k88]; decide) (by rw [k88]; decide) (by decide) ?_
        refine lv_aload_n B.1 B.2.1 dL_law_513 rfl (lv_at hl 1 rfl) ?_
        refine lv_aload_n B.1 B.2.1 dL_law_514 rfl (lv_at hl 0 rfl) ?_
        refine lv_iload_n B.1 B.2.1 dL_law_515 rfl (lv_at hl 3 rfl) ?_
        refine lv_iconst (v := 1) B.1 B.2.1 dL_law_516 (by decide) ?_
        refine lv_iadd B.1 B.2.1 dL_law_517 ?_
        refine va_sld B.1 B.2.1 hX hbl hbA Z.2.2.2.1 hw.1 dL_law_518 ?_
        have hw := hw.2
        refine io_call_i Z (io_runV (ci := 9) (k := 110) [.int (xs ((x3 + 1)).toNatClampNeg)] [] B Z (io_c_X9_told l D ca ad A _ (xs ((x3 + 1)).toNatClampNeg) _ hw) io_k_L_78 ⟨Nat.le_of_ble_eq_true rfl, Nat.le_of_ble_eq_true rfl⟩ rfl (by decide) (io_e_110 _) rfl hl.1 (Nat.le_of_ble_eq_true rfl) dL_law_519 ⟨Nat.le_of_ble_eq_true rfl, Nat.le_of_ble_eq_true rfl⟩) (fun r89 s90 H locs hw Z => ?_)
        refine lv_aload_n B.1 B.2.1 dL_law_522 rfl (lv_at hl 2 rfl) ?_
        refine lv_aload_n B.1 B.2.1 dL_law_523 rfl (lv_at hl 0 rfl) ?_
        refine lv_iload_n B.1 B.2.1 dL_law_524 rfl (lv_at hl 3 rfl) ?_
        refine lv_iconst (v := 1) B.1 B.2.1 dL_law_525 (by decide) ?_
        refine lv_iadd B.1 B.2.1 dL_law_526 ?_
        refine va_sld B.1 B.2.1 hX hbl hbA Z.2.2.2.1 hw.1 dL_law_527 ?_
        have hw := hw.2
        refine io_call_i Z (io_runV (ci := 10) (k := 111) [.int (xs ((x3 + 1)).toNatClampNeg)] [.int r89] B Z (io_c_X10_told l D ca ad A _ (xs ((x3 + 1)).toNatClampNeg) _ hw) io_k_L_81 ⟨Nat.le_of_ble_eq_true rfl, Nat.le_of_ble_eq_true rfl⟩ rfl (by decide) (io_e_111 _) rfl hl.1 (Nat.le_of_ble_eq_true rfl) dL_law_528 ⟨Nat.le_of_ble_eq_true rfl, Nat.le_of_ble_eq_true rfl⟩) (fun r91 s92 H locs hw Z => ?_)
        refine lv_icmp_eq (tgt := 536) B.1 B.2.1 dL_law_531 (by decide) (fun k93 => ?_) (fun k93 => ?_)
        · have hw := hw.1 k93
          refine lv_iinc (v := (x3 + 5)) (lv' := [(3, .int (x3 + 5)), (0, .ref b), (1, .ref (ad 110)), (2, .ref (ad 111))]) B.1 B.2.1 dL_law_536 hl (k := 3) rfl rfl (by decide) rfl (fun ls hl => ?_)
          refine lv_goto (tgt := 18) B.1 B.2.1 dL_law_539 (by decide) ?_
          exact IH18 _ (x3 + 5) hw _ _ Z _ (lv_sub (l' := [(0, .ref b), (1, .ref (ad 110)), (2, .ref (ad 111)), (3, .int (x3 + 5))]) hl [1, 2, 3, 0] rfl)
        · have hw := hw.2 k93
          refine lv_iconst (v := 0) B.1 B.2.1 dL_law_534 (by decide) ?_
          exact hw.elim
      have hw := hw.2 k88
      refine io_tswE (tgt := 536) (fun z => (([0, 1, 2, 3, 4, 5, 6, 7, 8, 9, 10, 11, 12, 13, 14, 15] : List Int32).contains z) = true) B dL_law_32 (by decide) (by decide) (by decide) (by decide +kernel) (io_nc (List.forall_mem_cons.mpr ⟨fun q => k2 (q), (List.forall_mem_cons.mpr ⟨fun q => k7 (q), (List.forall_mem_cons.mpr ⟨fun q => k23 (q), (List.forall_mem_cons.mpr ⟨fun q => k28 (q), (List.forall_mem_cons.mpr ⟨fun q => k33 (q), (List.forall_mem_cons.mpr ⟨fun q => k38 (q), (List.forall_mem_cons.mpr ⟨fun q => k43 (q), (List.forall_mem_cons.mpr ⟨fun q => k48 (q), (List.forall_mem_cons.mpr ⟨fun q => k53 (q), (List.forall_mem_cons.mpr ⟨fun q => k58 (q), (List.forall_mem_cons.mpr ⟨fun q => k63 (q), (List.forall_mem_cons.mpr ⟨fun q => k68 (q), (List.forall_mem_cons.mpr ⟨fun q => k73 (q), (List.forall_mem_cons.mpr ⟨fun q => k78 (q), (List.forall_mem_cons.mpr ⟨fun q => k83 (q), (List.forall_mem_cons.mpr ⟨fun q => k88 (q), (fun _ h => absurd h List.not_mem_nil)⟩)⟩)⟩)⟩)⟩)⟩)⟩)⟩)⟩)⟩)⟩)⟩)⟩)⟩)⟩)⟩)) ?_
      refine lv_iinc (v := (x3 + 5)) (lv' := [(3, .int (x3 + 5)), (0, .ref b), (1, .ref (ad 110)), (2, .ref (ad 111))]) B.1 B.2.1 dL_law_536 hl (k := 3) rfl rfl (by decide) rfl (fun ls hl => ?_)
      refine lv_goto (tgt := 18) B.1 B.2.1 dL_law_539 (by decide) ?_
      exact IH18 _ (x3 + 5) hw _ _ Z _ (lv_sub (l' := [(0, .ref b), (1, .ref (ad 110)), (2, .ref (ad 111)), (3, .int (x3 + 5))]) hl [1, 2, 3, 0] rfl)
