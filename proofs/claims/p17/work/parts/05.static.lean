def wp_X9_within (σ : io_M) (p0 : Int32) (p1 : Int32) (post : Int32 → io_M → Prop) : Prop := ((p0 < 0 → post 0 σ) ∧ (¬ (p0 < 0) → ((p1 ≤ p0 → post 0 σ) ∧ (¬ (p1 ≤ p0) → post 1 σ))))
set_option maxHeartbeats 4000000 in
set_option maxRecDepth 100000 in
theorem io_c_X9_within (l : Launch) (D : va_G) (ca : Nat → ClassId) (ad : Nat → Nat) (A : Nat → Prop) (σ : io_M) (p0 : Int32) (p1 : Int32) (post : Int32 → io_M → Prop) (hw : wp_X9_within σ p0 p1 post) : Met l yX9_within (.code yX9_within cX9_within 2 (some .boolean) :: io_tb) (io_rm 0) (va_Pc [.int p0, .int p1] (io_W D ca ad A σ)) (va_Qi (fun r u => io_bl r ∧ post r u) (io_W D ca ad A) A) 0 0 A := by
  refine Met.ofW (cc := cX9_within) (maxL := 2) (ret := (some .boolean)) (by decide) rfl ?_
  intro p e s m args below meth c s₁ Bd hml hv
  obtain ⟨rfl, hW0⟩ := hv
  have Z := io_Z.start hW0
  have B : CallFix p m c cX9_within 2 s _ io_tb RX9 := ⟨Bd.exec, Bd.bytes, hml, findClass_of_methodNamed Bd.named, fun w hw => atoms_spec (ws := (.code yX9_within cX9_within 2 (some .boolean) :: io_tb)) Bd.pre w (List.mem_cons_of_mem _ hw)⟩
  have hr := Bd.returns
  have hlk := Bd.notSynchronized
  have hl := lv_entry ([.int p0, .int p1]) (n := 2) (Nat.le_of_ble_eq_true rfl)
  rw [lg_entry_eq]
  generalize (lg_sl ([.int p0, .int p1]) ++ List.replicate (2 - (lg_sl ([.int p0, .int p1])).length) Slot.unset).toArray = ls at hl ⊢
  have hl : lv_has ls 2 [(0, .int p0), (1, .int p1)] := hl
  show W p l e (io_rm 0) s m _ below meth c s.heap [] 0 0 _ (F0 m 0 ls [])
  unfold wp_X9_within at hw
  refine lv_iload_n B.1 B.2.1 dX9_within_0 rfl (lv_at hl 0 rfl) ?_
  refine lv_if_lt (tgt := 13) B.1 B.2.1 dX9_within_1 (by decide) (fun k2 => ?_) (fun k2 => ?_)
  · have hw := hw.1 k2
    refine lv_iconst (v := 0) B.1 B.2.1 dX9_within_13 (by decide) ?_
    exact io_ret_z B Z hr hlk (Or.inl rfl) hw dX9_within_14
  · have hw := hw.2 k2
    refine lv_iload_n B.1 B.2.1 dX9_within_4 rfl (lv_at hl 0 rfl) ?_
    refine lv_iload_n B.1 B.2.1 dX9_within_5 rfl (lv_at hl 1 rfl) ?_
    refine lv_icmp_ge (tgt := 13) B.1 B.2.1 dX9_within_6 (by decide) (fun k3 => ?_) (fun k3 => ?_)
    · have hw := hw.1 k3
      refine lv_iconst (v := 0) B.1 B.2.1 dX9_within_13 (by decide) ?_
      exact io_ret_z B Z hr hlk (Or.inl rfl) hw dX9_within_14
    · have hw := hw.2 k3
      refine lv_iconst (v := 1) B.1 B.2.1 dX9_within_9 (by decide) ?_
      refine lv_goto (tgt := 14) B.1 B.2.1 dX9_within_10 (by decide) ?_
      exact io_ret_z B Z hr hlk (Or.inr rfl) hw dX9_within_14
def wp_X9_turned (σ : io_M) (p0 : Int32) (post : Int32 → io_M → Prop) : Prop := post ((-1) - p0) σ
set_option maxHeartbeats 4000000 in
set_option maxRecDepth 100000 in
theorem io_c_X9_turned (l : Launch) (D : va_G) (ca : Nat → ClassId) (ad : Nat → Nat) (A : Nat → Prop) (σ : io_M) (p0 : Int32) (post : Int32 → io_M → Prop) (hw : wp_X9_turned σ p0 post) : Met l yX9_turned (.code yX9_turned cX9_turned 1 (some .int) :: io_tb) (io_rm 0) (va_Pc [.int p0] (io_W D ca ad A σ)) (va_Qi post (io_W D ca ad A) A) 0 0 A := by
  refine Met.ofW (cc := cX9_turned) (maxL := 1) (ret := (some .int)) (by decide) rfl ?_
  intro p e s m args below meth c s₁ Bd hml hv
  obtain ⟨rfl, hW0⟩ := hv
  have Z := io_Z.start hW0
  have B : CallFix p m c cX9_turned 1 s _ io_tb RX9 := ⟨Bd.exec, Bd.bytes, hml, findClass_of_methodNamed Bd.named, fun w hw => atoms_spec (ws := (.code yX9_turned cX9_turned 1 (some .int) :: io_tb)) Bd.pre w (List.mem_cons_of_mem _ hw)⟩
  have hr := Bd.returns
  have hlk := Bd.notSynchronized
  have hl := lv_entry ([.int p0]) (n := 1) (Nat.le_of_ble_eq_true rfl)
  rw [lg_entry_eq]
  generalize (lg_sl ([.int p0]) ++ List.replicate (1 - (lg_sl ([.int p0])).length) Slot.unset).toArray = ls at hl ⊢
  have hl : lv_has ls 1 [(0, .int p0)] := hl
  show W p l e (io_rm 0) s m _ below meth c s.heap [] 0 0 _ (F0 m 0 ls [])
  unfold wp_X9_turned at hw
  refine lv_iconst (v := (-1)) B.1 B.2.1 dX9_turned_0 (by decide) ?_
  refine lv_iload_n B.1 B.2.1 dX9_turned_1 rfl (lv_at hl 0 rfl) ?_
  refine lv_isub B.1 B.2.1 dX9_turned_2 ?_
  exact io_ret_i B Z hr hlk hw dX9_turned_3
def wl_J7_fill_53178_108_5 : Nat → io_M → Int32 → Int32 → Int32 → (io_M → Prop) → Prop
  | 0, _, _, _, _, _ => False
  | n + 1, σ, x1, x2, x3, post => ((x3 ≤ x2 → post σ) ∧ (¬ (x3 ≤ x2) → (vp_in x2 6 ∧ ∀ s102, s102 = io_up σ 108 (x2).toNatClampNeg (x1) → wl_J7_fill_53178_108_5 n s102 x1 (x2 + 1) x3 post)))
def wp_J7_fill_53178_108 (σ : io_M) (p1 : Int32) (post : io_M → Prop) : Prop := (∃ n, wl_J7_fill_53178_108_5 n σ p1 0 6 post)
set_option maxHeartbeats 4000000 in
set_option maxRecDepth 100000 in
theorem io_c_J7_fill_53178_108 (l : Launch) (D : va_G) (ca : Nat → ClassId) (ad : Nat → Nat) (A : Nat → Prop) (σ : io_M) (p1 : Int32) (post : io_M → Prop) (hw : wp_J7_fill_53178_108 σ p1 post) : Met l yJ7_fill_53178 (.code yJ7_fill_53178 cJ7_fill_53178 4 none :: io_tb) (io_rm 0) (va_Pc [.ref (ad 108), .int p1] (io_W D ca ad A σ)) (va_Qv post (io_W D ca ad A) A) 0 0 A := by
  refine Met.ofW (cc := cJ7_fill_53178) (maxL := 4) (ret := none) (by decide) rfl ?_
  intro p e s m args below meth c s₁ Bd hml hv
  obtain ⟨rfl, hW0⟩ := hv
  have Z := io_Z.start hW0
  have B : CallFix p m c cJ7_fill_53178 4 s _ io_tb RJ7 := ⟨Bd.exec, Bd.bytes, hml, findClass_of_methodNamed Bd.named, fun w hw => atoms_spec (ws := (.code yJ7_fill_53178 cJ7_fill_53178 4 none :: io_tb)) Bd.pre w (List.mem_cons_of_mem _ hw)⟩
  have hr := Bd.returns
  have hlk := Bd.notSynchronized
  have hl := lv_entry ([.ref (ad 108), .int p1]) (n := 4) (Nat.le_of_ble_eq_true rfl)
  rw [lg_entry_eq]
  generalize (lg_sl ([.ref (ad 108), .int p1]) ++ List.replicate (4 - (lg_sl ([.ref (ad 108), .int p1])).length) Slot.unset).toArray = ls at hl ⊢
  have hl : lv_has ls 4 [(0, .ref (ad 108)), (1, .int p1)] := hl
  show W p l e (io_rm 0) s m _ below meth c s.heap [] 0 0 _ (F0 m 0 ls [])
  have LP5 : ∀ (n : Nat) (σ : io_M) (x1 : Int32) (x2 : Int32) (x3 : Int32), wl_J7_fill_53178_108_5 n σ x1 x2 x3 post → ∀ (H : Heap) (locs : List Loc), io_Z D ca ad A s H locs σ → ∀ ls : Array Slot, lv_has ls 4 [(0, .ref (ad 108)), (1, .int x1), (2, .int x2), (3, .int x3)] → W p l e (io_rm 0) s m ([.ref (ad 108), .int p1] : List Value).toArray below meth c H locs 0 0 (MQ below (va_Qv post (io_W D ca ad A) A) ([.ref (ad 108), .int p1] : List Value).toArray s 0 0 A) (F0 m 5 ls []) := by
    intro n
    induction n with
    | zero =>
      intro σ x1 x2 x3 hw
      exact hw.elim
    | succ n IH5 =>
      intro σ x1 x2 x3 hw H locs Z ls hl
      unfold wl_J7_fill_53178_108_5 at hw
      refine lv_iload_n B.1 B.2.1 dJ7_fill_53178_5 rfl (lv_at hl 2 rfl) ?_
      refine lv_iload_n B.1 B.2.1 dJ7_fill_53178_6 rfl (lv_at hl 3 rfl) ?_
      refine lv_icmp_ge (tgt := 20) B.1 B.2.1 dJ7_fill_53178_7 (by decide) (fun k101 => ?_) (fun k101 => ?_)
      · have hw := hw.1 k101
        exact io_ret_v B Z hr hlk hw dJ7_fill_53178_20
      · have hw := hw.2 k101
        refine lv_aload_n B.1 B.2.1 dJ7_fill_53178_10 rfl (lv_at hl 0 rfl) ?_
        refine lv_iload_n B.1 B.2.1 dJ7_fill_53178_11 rfl (lv_at hl 2 rfl) ?_
        refine lv_iload_n B.1 B.2.1 dJ7_fill_53178_12 rfl (lv_at hl 1 rfl) ?_
        refine io_iast B Z 108 (by decide) io_e_108 hw.1 dJ7_fill_53178_13 (fun s102 H locs e103 Z => ?_)
        have hw := hw.2 s102 e103
        refine lv_iinc (v := (x2 + 1)) (lv' := [(2, .int (x2 + 1)), (0, .ref (ad 108)), (1, .int x1), (3, .int x3)]) B.1 B.2.1 dJ7_fill_53178_14 hl (k := 2) rfl rfl (by decide) rfl (fun ls hl => ?_)
        refine lv_goto (tgt := 5) B.1 B.2.1 dJ7_fill_53178_17 (by decide) ?_
        exact IH5 _ x1 (x2 + 1) x3 hw _ _ Z _ (lv_sub (l' := [(0, .ref (ad 108)), (1, .int x1), (2, .int (x2 + 1)), (3, .int x3)]) hl [1, 2, 0, 3] rfl)
  unfold wp_J7_fill_53178_108 at hw
  refine lv_iconst (v := 0) B.1 B.2.1 dJ7_fill_53178_0 (by decide) ?_
  refine lv_istore_n (lv' := [(2, .int 0), (0, .ref (ad 108)), (1, .int p1)]) B.1 B.2.1 dJ7_fill_53178_1 rfl hl (by decide) rfl (fun ls hl => ?_)
  refine lv_aload_n B.1 B.2.1 dJ7_fill_53178_2 rfl (lv_at hl 1 rfl) ?_
  refine va_alen (v := 6) B.1 B.2.1 Z.1 Z.2.1 108 0 ((io_at (by decide)).trans (by rw [io_e_108])) (ty := .int) rfl rfl dJ7_fill_53178_3 ?_
  refine lv_istore_n (lv' := [(3, .int 6), (2, .int 0), (0, .ref (ad 108)), (1, .int p1)]) B.1 B.2.1 dJ7_fill_53178_4 rfl hl (by decide) rfl (fun ls hl => ?_)
  obtain ⟨n, hw⟩ := hw
  exact LP5 n _ p1 0 6 hw _ _ Z _ (lv_sub (l' := [(0, .ref (ad 108)), (1, .int p1), (2, .int 0), (3, .int 6)]) hl [2, 3, 1, 0] rfl)
def wl_J7_fill_53178_109_5 : Nat → io_M → Int32 → Int32 → Int32 → (io_M → Prop) → Prop
  | 0, _, _, _, _, _ => False
  | n + 1, σ, x1, x2, x3, post => ((x3 ≤ x2 → post σ) ∧ (¬ (x3 ≤ x2) → (vp_in x2 6 ∧ ∀ s102, s102 = io_up σ 109 (x2).toNatClampNeg (x1) → wl_J7_fill_53178_109_5 n s102 x1 (x2 + 1) x3 post)))
def wp_J7_fill_53178_109 (σ : io_M) (p1 : Int32) (post : io_M → Prop) : Prop := (∃ n, wl_J7_fill_53178_109_5 n σ p1 0 6 post)
set_option maxHeartbeats 4000000 in
set_option maxRecDepth 100000 in
theorem io_c_J7_fill_53178_109 (l : Launch) (D : va_G) (ca : Nat → ClassId) (ad : Nat → Nat) (A : Nat → Prop) (σ : io_M) (p1 : Int32) (post : io_M → Prop) (hw : wp_J7_fill_53178_109 σ p1 post) : Met l yJ7_fill_53178 (.code yJ7_fill_53178 cJ7_fill_53178 4 none :: io_tb) (io_rm 0) (va_Pc [.ref (ad 109), .int p1] (io_W D ca ad A σ)) (va_Qv post (io_W D ca ad A) A) 0 0 A := by
  refine Met.ofW (cc := cJ7_fill_53178) (maxL := 4) (ret := none) (by decide) rfl ?_
  intro p e s m args below meth c s₁ Bd hml hv
  obtain ⟨rfl, hW0⟩ := hv
  have Z := io_Z.start hW0
  have B : CallFix p m c cJ7_fill_53178 4 s _ io_tb RJ7 := ⟨Bd.exec, Bd.bytes, hml, findClass_of_methodNamed Bd.named, fun w hw => atoms_spec (ws := (.code yJ7_fill_53178 cJ7_fill_53178 4 none :: io_tb)) Bd.pre w (List.mem_cons_of_mem _ hw)⟩
  have hr := Bd.returns
  have hlk := Bd.notSynchronized
  have hl := lv_entry ([.ref (ad 109), .int p1]) (n := 4) (Nat.le_of_ble_eq_true rfl)
  rw [lg_entry_eq]
  generalize (lg_sl ([.ref (ad 109), .int p1]) ++ List.replicate (4 - (lg_sl ([.ref (ad 109), .int p1])).length) Slot.unset).toArray = ls at hl ⊢
  have hl : lv_has ls 4 [(0, .ref (ad 109)), (1, .int p1)] := hl
  show W p l e (io_rm 0) s m _ below meth c s.heap [] 0 0 _ (F0 m 0 ls [])
  have LP5 : ∀ (n : Nat) (σ : io_M) (x1 : Int32) (x2 : Int32) (x3 : Int32), wl_J7_fill_53178_109_5 n σ x1 x2 x3 post → ∀ (H : Heap) (locs : List Loc), io_Z D ca ad A s H locs σ → ∀ ls : Array Slot, lv_has ls 4 [(0, .ref (ad 109)), (1, .int x1), (2, .int x2), (3, .int x3)] → W p l e (io_rm 0) s m ([.ref (ad 109), .int p1] : List Value).toArray below meth c H locs 0 0 (MQ below (va_Qv post (io_W D ca ad A) A) ([.ref (ad 109), .int p1] : List Value).toArray s 0 0 A) (F0 m 5 ls []) := by
    intro n
    induction n with
    | zero =>
      intro σ x1 x2 x3 hw
      exact hw.elim
    | succ n IH5 =>
      intro σ x1 x2 x3 hw H locs Z ls hl
      unfold wl_J7_fill_53178_109_5 at hw
      refine lv_iload_n B.1 B.2.1 dJ7_fill_53178_5 rfl (lv_at hl 2 rfl) ?_
      refine lv_iload_n B.1 B.2.1 dJ7_fill_53178_6 rfl (lv_at hl 3 rfl) ?_
      refine lv_icmp_ge (tgt := 20) B.1 B.2.1 dJ7_fill_53178_7 (by decide) (fun k101 => ?_) (fun k101 => ?_)
      · have hw := hw.1 k101
        exact io_ret_v B Z hr hlk hw dJ7_fill_53178_20
      · have hw := hw.2 k101
        refine lv_aload_n B.1 B.2.1 dJ7_fill_53178_10 rfl (lv_at hl 0 rfl) ?_
        refine lv_iload_n B.1 B.2.1 dJ7_fill_53178_11 rfl (lv_at hl 2 rfl) ?_
        refine lv_iload_n B.1 B.2.1 dJ7_fill_53178_12 rfl (lv_at hl 1 rfl) ?_
        refine io_iast B Z 109 (by decide) io_e_109 hw.1 dJ7_fill_53178_13 (fun s102 H locs e103 Z => ?_)
        have hw := hw.2 s102 e103
        refine lv_iinc (v := (x2 + 1)) (lv' := [(2, .int (x2 + 1)), (0, .ref (ad 109)), (1, .int x1), (3, .int x3)]) B.1 B.2.1 dJ7_fill_53178_14 hl (k := 2) rfl rfl (by decide) rfl (fun ls hl => ?_)
        refine lv_goto (tgt := 5) B.1 B.2.1 dJ7_fill_53178_17 (by decide) ?_
        exact IH5 _ x1 (x2 + 1) x3 hw _ _ Z _ (lv_sub (l' := [(0, .ref (ad 109)), (1, .int x1), (2, .int (x2 + 1)), (3, .int x3)]) hl [1, 2, 0, 3] rfl)
  unfold wp_J7_fill_53178_109 at hw
  refine lv_iconst (v := 0) B.1 B.2.1 dJ7_fill_53178_0 (by decide) ?_
  refine lv_istore_n (lv' := [(2, .int 0), (0, .ref (ad 109)), (1, .int p1)]) B.1 B.2.1 dJ7_fill_53178_1 rfl hl (by decide) rfl (fun ls hl => ?_)
  refine lv_aload_n B.1 B.2.1 dJ7_fill_53178_2 rfl (lv_at hl 1 rfl) ?_
  refine va_alen (v := 6) B.1 B.2.1 Z.1 Z.2.1 109 0 ((io_at (by decide)).trans (by rw [io_e_109])) (ty := .int) rfl rfl dJ7_fill_53178_3 ?_
  refine lv_istore_n (lv' := [(3, .int 6), (2, .int 0), (0, .ref (ad 109)), (1, .int p1)]) B.1 B.2.1 dJ7_fill_53178_4 rfl hl (by decide) rfl (fun ls hl => ?_)
  obtain ⟨n, hw⟩ := hw
  exact LP5 n _ p1 0 6 hw _ _ Z _ (lv_sub (l' := [(0, .ref (ad 109)), (1, .int p1), (2, .int 0), (3, .int 6)]) hl [2, 3, 1, 0] rfl)
def wp_X9_mayTake (σ : io_M) (p0 : Int32) (post : Int32 → io_M → Prop) : Prop := ((p0 = 1 → post 0 σ) ∧ (¬ (p0 = 1) → ((p0 = 2 → post 0 σ) ∧ (¬ (p0 = 2) → post 1 σ))))
set_option maxHeartbeats 4000000 in
set_option maxRecDepth 100000 in
theorem io_c_X9_mayTake (l : Launch) (D : va_G) (ca : Nat → ClassId) (ad : Nat → Nat) (A : Nat → Prop) (σ : io_M) (p0 : Int32) (post : Int32 → io_M → Prop) (hw : wp_X9_mayTake σ p0 post) : Met l yX9_mayTake (.code yX9_mayTake cX9_mayTake 1 (some .boolean) :: io_tb) (io_rm 0) (va_Pc [.int p0] (io_W D ca ad A σ)) (va_Qi (fun r u => io_bl r ∧ post r u) (io_W D ca ad A) A) 0 0 A := by
  refine Met.ofW (cc := cX9_mayTake) (maxL := 1) (ret := (some .boolean)) (by decide) rfl ?_
  intro p e s m args below meth c s₁ Bd hml hv
  obtain ⟨rfl, hW0⟩ := hv
  have Z := io_Z.start hW0
  have B : CallFix p m c cX9_mayTake 1 s _ io_tb RX9 := ⟨Bd.exec, Bd.bytes, hml, findClass_of_methodNamed Bd.named, fun w hw => atoms_spec (ws := (.code yX9_mayTake cX9_mayTake 1 (some .boolean) :: io_tb)) Bd.pre w (List.mem_cons_of_mem _ hw)⟩
  have hr := Bd.returns
  have hlk := Bd.notSynchronized
  have hl := lv_entry ([.int p0]) (n := 1) (Nat.le_of_ble_eq_true rfl)
  rw [lg_entry_eq]
  generalize (lg_sl ([.int p0]) ++ List.replicate (1 - (lg_sl ([.int p0])).length) Slot.unset).toArray = ls at hl ⊢
  have hl : lv_has ls 1 [(0, .int p0)] := hl
  show W p l e (io_rm 0) s m _ below meth c s.heap [] 0 0 _ (F0 m 0 ls [])
  unfold wp_X9_mayTake at hw
  refine lv_iload_n B.1 B.2.1 dX9_mayTake_0 rfl (lv_at hl 0 rfl) ?_
  refine lv_iconst (v := 1) B.1 B.2.1 dX9_mayTake_1 (by decide) ?_
  refine lv_icmp_eq (tgt := 14) B.1 B.2.1 dX9_mayTake_2 (by decide) (fun k2 => ?_) (fun k2 => ?_)
  · have hw := hw.1 k2
    refine lv_iconst (v := 0) B.1 B.2.1 dX9_mayTake_14 (by decide) ?_
    exact io_ret_z B Z hr hlk (Or.inl rfl) hw dX9_mayTake_15
  · have hw := hw.2 k2
    refine lv_iload_n B.1 B.2.1 dX9_mayTake_5 rfl (lv_at hl 0 rfl) ?_
    refine lv_iconst (v := 2) B.1 B.2.1 dX9_mayTake_6 (by decide) ?_
    refine lv_icmp_eq (tgt := 14) B.1 B.2.1 dX9_mayTake_7 (by decide) (fun k3 => ?_) (fun k3 => ?_)
    · have hw := hw.1 k3
      refine lv_iconst (v := 0) B.1 B.2.1 dX9_mayTake_14 (by decide) ?_
      exact io_ret_z B Z hr hlk (Or.inl rfl) hw dX9_mayTake_15
    · have hw := hw.2 k3
      refine lv_iconst (v := 1) B.1 B.2.1 dX9_mayTake_10 (by decide) ?_
      refine lv_goto (tgt := 15) B.1 B.2.1 dX9_mayTake_11 (by decide) ?_
      exact io_ret_z B Z hr hlk (Or.inr rfl) hw dX9_mayTake_15
