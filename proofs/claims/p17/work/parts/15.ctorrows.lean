/-! worlds of the constructors: explicit cells -/
def io_rc (n mc ms : Nat) : Room := { frames := n, cells := mc, slots := ms, locals := 40 * n }
def io_BK (D : va_G) (ca : Nat → ClassId) (U : State) : Prop := va_K D vwCl (io_tys ca) U ∧ va_AO "InputOutput$Handle" U ∧ va_AO "InputOutput$LazyList" U ∧ (Cond.arrayOver (.array .int)).before #[] U = true ∧ io_NN U
theorem io_BK.warm {D : va_G} {ca : Nat → ClassId} {s U : State} (hW : s.WarmedH U.vm) (h : io_BK D ca s) : io_BK D ca U := ⟨va_K.moved hW.alike h.1, h.2.1.moved hW.alike, h.2.2.1.moved hW.alike, over_moved hW.alike h.2.2.2.1, fun q hq => (h.2.2.2.2 q hq).warmM hW⟩
theorem io_BK.same {D : va_G} {ca : Nat → ClassId} {u U : State} (hvm : u.vm = U.vm) (h : io_BK D ca u) : io_BK D ca U := ⟨va_K.moved (hvm ▸ Vm.Alike.refl u.vm) h.1, h.2.1.moved (hvm ▸ Vm.Alike.refl u.vm), h.2.2.1.moved (hvm ▸ Vm.Alike.refl u.vm), over_moved (hvm ▸ Vm.Alike.refl u.vm) h.2.2.2.1, fun q hq => (h.2.2.2.2 q hq).same rfl hvm⟩
def io_Pq (D : va_G) (ca : Nat → ClassId) (w0 : va_W) (sz : Nat) (U : State) : Prop := U.heap.size = sz ∧ va_P D vwCl w0 U.heap ∧ io_BK D ca U ∧ va_D (fun _ => True) w0
theorem io_Pq.blind {D : va_G} {ca : Nat → ClassId} {w0 : va_W} {sz : Nat} {av : List Value} : FrameBlind (va_Pc av (io_Pq D ca w0 sz)) := fun a U g mk q => ⟨q.1, q.2.1, q.2.2.1, io_BK.same (u := U) (U := U.calling g mk a) rfl q.2.2.2.1, q.2.2.2.2⟩
def io_LkI (own : String) (index : Nat) (y : MethodName) (bytes : ByteArray) (maxL n : Nat) : Prop :=
  (y.cls ≠ "java/lang/invoke/MethodHandle" ∧ y.cls ≠ "java/lang/invoke/VarHandle" ∧ (parseMethodDescriptor y.desc).map (fun d => d.parameters.length) = some n) ∧ y.name = "<init>" ∧
  (Cond.methodLink own index y ∈ io_tb ∧ Cond.instanceMethod y ∈ io_tb ∧ Cond.initialized y.cls ∈ io_tb ∧ Cond.code y bytes maxL none ∈ io_tb)
def io_LkJ (own : String) (index : Nat) (y : MethodName) (bytes : ByteArray) (maxL n : Nat) : Prop :=
  (y.cls ≠ "java/lang/invoke/MethodHandle" ∧ y.cls ≠ "java/lang/invoke/VarHandle" ∧ (parseMethodDescriptor y.desc).map (fun d => d.parameters.length) = some n) ∧ y.name = "<init>" ∧
  ((own, index, y) ∈ io_nl ∧ Cond.instanceMethod y ∈ io_tb ∧ Cond.initialized y.cls ∈ io_tb ∧ Cond.code y bytes maxL none ∈ io_tb)
section IC
variable {p : Program} {l : Launch} {e : Env} {R : Room} {s : State} {m : MethodId} {args : Array Value} {below : List Frame} {meth : Method} {c : Code} {H : Heap} {locs : List Loc} {cells slots : Nat} {Q : State → Prop} {cc : ByteArray} {pc nL : Nat} {ls : Array Slot} {D : va_G} {ca : Nat → ClassId} {A : Nat → Prop} {own : String} {index : Nat} {ws : va_W}
theorem io_callC {cell0 : Nat × va_E} {y : MethodName} {bytes : ByteArray} {maxL n N mc ms : Nat} {Φ : Heap → Prop} (As rest : List Value) (B : CallFix p m c cc nL s args io_tb own) (hK : io_BK D ca s) (hP : va_P D vwCl ws H) (hD : va_D A ws) (hS : va_S A s.heap H locs) (hA : ∀ q, s.heap.size ≤ q → A q) (isC : List Nat) (hC : isC.map (fun i => ws[i]?) = ([cell0] : va_W).map some) (hPc : va_P D vwCl [cell0] H) (hDc : va_D A [cell0])
    (hM : Met l y (.code y bytes maxL none :: io_tb) (io_rc N mc ms) (va_Pc (.ref cell0.1 :: As) (io_Pq D ca [cell0] H.size)) (va_Qv (fun _ : Unit => True) (fun _ t => Φ t.heap) (va_A [cell0] H.size)) mc ms (va_A [cell0] H.size))
    (hk : io_LkI own index y bytes maxL n ∨ io_LkJ own index y bytes maxL n) (hR : N + 1 ≤ R.frames ∧ 8 + (maxL + 11) + 40 * N ≤ R.locals) (hn : As.length = n) (hls : ls.size = nL) (hst : (rest.map fun v => v.category).sum ≤ 8) (hdg : decode cc pc = .ok (.invokespecial index, 3)) (hcs : cells + mc ≤ R.cells ∧ slots + ms ≤ R.slots)
    (kk : ∀ (H1 : Heap) (locs1 : List Loc), Φ H1 → (∀ q : Nat, q < H.size → ¬ va_A [cell0] H.size q → H1[q]? = H[q]?) → va_S A s.heap H1 locs1 → (∀ q, va_A [cell0] H.size q → A q) → W p l e R s m args below meth c H1 locs1 (cells + mc) (slots + ms) Q (F0 m (pc + 3) ls rest)) : W p l e R s m args below meth c H locs cells slots Q (F0 m pc ls (As.reverse ++ .ref cell0.1 :: rest)) := by
  have hFc := va_free (wc := [cell0]) hD hS hA isC hC
  have hpre : PreS s H (va_Pc (.ref cell0.1 :: As) (io_Pq D ca [cell0] H.size)) (.ref cell0.1 :: As) := ⟨io_Pq.blind, fun U hU hW => ⟨rfl, by rw [hU], by rw [hU]; exact hPc, hK.warm hW, hDc.weaken (fun _ _ _ _ => trivial)⟩⟩
  have hrun : va_Run p l e R s m args below meth c H locs cells slots mc ms (F0 m pc ls (As.reverse ++ .ref cell0.1 :: rest)) rest (va_Qv (fun _ : Unit => True) (fun _ t => Φ t.heap) (va_A [cell0] H.size) (Value.ref cell0.1 :: As).toArray) (va_A [cell0] H.size) := by
    rcases hk with ⟨hd, hy, h1, h2, h3, h5⟩ | ⟨hd, hy, h1, h2, h3, h5⟩
    · exact va_runI (As := As) (rest := rest) B hM (cwI n B.2.2.2.2 (io_code_in h5) rfl rfl rfl (B.2.2.2.2 _ h3) (B.2.2.2.2 _ h1) (B.2.2.2.2 _ h2) hy hd hR) hpre rfl hn hls rfl (lv_room hst) hdg hcs
    · exact va_runIN (As := As) (rest := rest) B hM ⟨va_cnB n B.2.2.2.2 (io_code_in h5) rfl rfl rfl (hK.2.2.2.2 _ h1) (B.2.2.2.2 _ h3) hd hR, hy, B.2.2.2.2 _ h2⟩ hpre rfl hn hls rfl (lv_room hst) hdg hcs
  exact va_callv hrun hS (fun q _ h => hFc q h) hFc (fun u t H1 locs1 ht hvm hp hB hz hk1 hS1 => kk H1 locs1 (by rw [← ht]; exact hB) hk1 hS1 hFc)
theorem io_cls {ty : FieldType} {c1 c2 : ClassId} (h1 : va_RA s c1 ty) (h2 : va_RA s c2 ty) : c1 = c2 := by
  cases ty with
  | object C =>
    obtain ⟨_, _, _, _, _, a⟩ := h1
    obtain ⟨_, _, _, _, _, b⟩ := h2
    exact Option.some.inj (a.symm.trans b)
  | _ => exact Option.some.inj ((show s.vm.findClass _ = some c1 from h1).symm.trans (show s.vm.findClass _ = some c2 from h2))
theorem io_newa {atype : ArrayType} (t : Nat) {ty : FieldType} (hty : newarray.typeOf atype = ty) (ht : (io_tys ca)[t]? = some (ca t, ty)) (hw : Cond.arrayClass (newarray.typeOf atype) ∈ io_tb) (hdv : ∀ cA : ClassId, ∀ N' : Nat, vp_cell cA (N', .inl (fun _ => 0)) = arrV cA N' (fun _ => defaultValue ty)) (hby : componentBytes ty ≤ 4) (B : CallFix p m c cc nL s args io_tb own) (hK : va_K D vwCl (io_tys ca) s) (hP : va_P D vwCl ws H) (hD : va_D A ws) (hS : va_S A s.heap H locs) (hA : ∀ q, s.heap.size ≤ q → A q) {n : Int32} {N' : Nat} {rest : List Value} (hn : ¬ n < 0) (hN : n.toNatClampNeg = N') (hN2 : N' ≤ 1000) (hcells : cells + 1 ≤ R.cells) (hslots : slots + N' ≤ R.slots) (hdg : decode cc pc = .ok (.newarray atype, 2))
    (kk : ∀ (q : Nat) (H1 : Heap), va_P D vwCl (ws ++ [(q, .inl (ca t, N', .inl (fun _ => 0)))]) H1 → va_D A (ws ++ [(q, .inl (ca t, N', .inl (fun _ => 0)))]) → va_S A s.heap H1 locs → W p l e R s m args below meth c H1 locs (cells + 1) (slots + N') Q (F0 m (pc + 2) ls (.ref q :: rest))) : W p l e R s m args below meth c H locs cells slots Q (F0 m pc ls (.int n :: rest)) := by
  refine va_newa (a0 := (N', .inl (fun _ => 0))) B.1 B.2.1 (B.2.2.2.2 _ hw) hty hK hP hD hS hA (fun cA => hdv cA N') hn hN ?_ hcells hslots hdg (fun q cA H1 hK2 hP hD hS => ?_)
  · have : N' * componentBytes ty ≤ 1000 * 4 := Nat.mul_le_mul hN2 hby
    omega
  · have e : cA = ca t := io_cls (hK2.2 (io_tys ca).length _ (by rw [List.getElem?_append_right (Nat.le_refl _), Nat.sub_self]; rfl)).2 (hK.2 t _ ht).2
    subst e
    exact kk q H1 hP hD hS
theorem io_newq {C : String} (t : Nat) (ht : (io_tys ca)[t]? = some (ca t, .object C)) (hov : va_AO C s) (hw : Cond.classLink own index C ∈ io_tb) (B : CallFix p m c cc nL s args io_tb own) (hK : va_K D vwCl (io_tys ca) s) (hP : va_P D vwCl ws H) (hD : va_D A ws) (hS : va_S A s.heap H locs) (hA : ∀ q, s.heap.size ≤ q → A q) {rest : List Value} (hcells : cells + 1 ≤ R.cells) (hslots : slots + 20 ≤ R.slots) (hdg : decode cc pc = .ok (.anewarray index, 3))
    (kk : ∀ (q : Nat) (H1 : Heap), va_P D vwCl (ws ++ [(q, .inl (ca t, 20, .inr (.inr (.inr (.inr (fun _ => none))))))]) H1 → va_D A (ws ++ [(q, .inl (ca t, 20, .inr (.inr (.inr (.inr (fun _ => none))))))]) → va_S A s.heap H1 locs → W p l e R s m args below meth c H1 locs (cells + 1) (slots + 20) Q (F0 m (pc + 3) ls (.ref q :: rest))) : W p l e R s m args below meth c H locs cells slots Q (F0 m pc ls (.int 20 :: rest)) := by
  refine va_newq (N' := 20) B.1 B.2.1 B.2.2.2.1 (B.2.2.2.2 _ hw) hov hK hP hD hS hA (by decide) (by decide) (by decide) hcells hslots hdg (fun q cA H1 hK2 hP hD hS => ?_)
  have e : cA = ca t := io_cls (hK2.2 (io_tys ca).length _ (by rw [List.getElem?_append_right (Nat.le_refl _), Nat.sub_self]; rfl)).2 (hK.2 t _ ht).2
  subst e
  exact kk q H1 hP hD hS
theorem io_newc {C : String} {T : u_T} {NF ci : Nat} (B : CallFix p m c cc nL s args io_tb own) (hin : ∀ w ∈ u_ws C T NF, w ∈ io_tb) (ty : Nat → FieldType) (hty : ∀ k, k < NF → parseFieldDescriptor (T k).2.2.1 = some (ty k)) (h1 : Cond.classLink own index C ∈ io_tb) (h2 : Cond.instantiable C NF ∈ io_tb) (h3 : Cond.initialized C ∈ io_tb) (hK : va_K D vwCl (io_tys ca) s) (hP : va_P D vwCl ws H) (hD : va_D A ws) (hS : va_S A s.heap H locs) (hA : ∀ q, s.heap.size ≤ q → A q) (hc : vwCl[ci]? = some (C, T, NF)) {fs : List Value} (hfs : ∀ j, j < NF → defaultValue (ty j) = vp_V fs j) (hcells : cells + 1 ≤ R.cells) (hslots : slots + NF ≤ R.slots) {rest : List Value} (hdg : decode cc pc = .ok (.new index, 3))
    (kk : ∀ (q : Nat) (H1 : Heap), va_P D vwCl (ws ++ [(q, .inr (ci, fs))]) H1 → va_D A (ws ++ [(q, .inr (ci, fs))]) → va_S A s.heap H1 locs → W p l e R s m args below meth c H1 locs (cells + 1) (slots + NF) Q (F0 m (pc + 3) ls (.ref q :: rest))) : W p l e R s m args below meth c H locs cells slots Q (F0 m pc ls rest) :=
  va_new B.1 B.2.1 B.2.2.2.2 hin ty hty B.2.2.2.1 (B.2.2.2.2 _ h1) (B.2.2.2.2 _ h2) (B.2.2.2.2 _ h3) hK hP hD hS hA hc hfs hcells hslots hdg kk
theorem io_mna (B : CallFix p m c cc nL s args io_tb own) (hK : io_BK D ca s) (hw : Cond.classLink own index "[[I" ∈ io_tb) (hw2 : Cond.arrayClass .int ∈ io_tb) (hP : va_P D vwCl ws H) (hD : va_D A ws) (hS : va_S A s.heap H locs) (hA : ∀ q, s.heap.size ≤ q → A q) {rest : List Value} (hcells : cells + 9 ≤ R.cells) (hslots : slots + 328 ≤ R.slots) (hdg : decode cc pc = .ok (.multianewarray index 2, 4))
    (kk : ∀ (q : Nat) (H1 : Heap), va_P D vwCl (ws ++ [(q, .inl (ca 5, 8, .inr (.inr (.inr (.inr (fun i => some (q + 1 + i))))))), (q + 1, .inl (ca 0, 40, .inl (fun _ => 0))), (q + 2, .inl (ca 0, 40, .inl (fun _ => 0))), (q + 3, .inl (ca 0, 40, .inl (fun _ => 0))), (q + 4, .inl (ca 0, 40, .inl (fun _ => 0))), (q + 5, .inl (ca 0, 40, .inl (fun _ => 0))), (q + 6, .inl (ca 0, 40, .inl (fun _ => 0))), (q + 7, .inl (ca 0, 40, .inl (fun _ => 0))), (q + 8, .inl (ca 0, 40, .inl (fun _ => 0)))]) H1 → va_D A (ws ++ [(q, .inl (ca 5, 8, .inr (.inr (.inr (.inr (fun i => some (q + 1 + i))))))), (q + 1, .inl (ca 0, 40, .inl (fun _ => 0))), (q + 2, .inl (ca 0, 40, .inl (fun _ => 0))), (q + 3, .inl (ca 0, 40, .inl (fun _ => 0))), (q + 4, .inl (ca 0, 40, .inl (fun _ => 0))), (q + 5, .inl (ca 0, 40, .inl (fun _ => 0))), (q + 6, .inl (ca 0, 40, .inl (fun _ => 0))), (q + 7, .inl (ca 0, 40, .inl (fun _ => 0))), (q + 8, .inl (ca 0, 40, .inl (fun _ => 0)))]) → va_S A s.heap H1 locs → W p l e R s m args below meth c H1 locs (cells + 9) (slots + 328) Q (F0 m (pc + 4) ls (.ref q :: rest))) : W p l e R s m args below meth c H locs cells slots Q (F0 m pc ls (.int 40 :: .int 8 :: rest)) := by
  intro T hT X
  have hov : (Cond.arrayOver (.array .int)).before args s = true := over_moved (Vm.Alike.refl s.vm) hK.2.2.2.1
  obtain ⟨vm₁, cA, cI, hW1, hfA, hfI, X1, st⟩ := io_grid X B.1 (g := F0 m pc ls (.int 40 :: .int 8 :: rest)) B.2.2.2.1 (B.2.2.2.2 _ hw) hov (B.2.2.2.2 _ hw2) rfl (by rw [B.2.1]; exact hdg) rfl hcells hslots
  have eA : cA = ca 5 := io_cls (s := s) (ty := .array .int) hfA (hK.1.2 5 _ rfl).2
  have eI : cI = ca 0 := io_cls (s := s) (ty := .int) hfI (hK.1.2 0 _ rfl).2
  subst eA
  subst eI
  have hz : (T.setVm vm₁).heap.size = H.size := by show T.heap.size = _; rw [hT]
  have hsz : (io_fs (T.setVm vm₁) (ca 5) (ca 0) 8).heap.size = H.size + 9 := by rw [io_fs_size, hz]
  have hold : ∀ x : Nat, x < H.size → (io_fs (T.setVm vm₁) (ca 5) (ca 0) 8).heap[x]? = H[x]? := fun x hx => by
    rw [io_fs_old _ _ _ (by rw [hz]; exact hx)]
    show T.heap[x]? = _
    rw [hT]
  have hrow : ∀ j : Nat, j < 8 → (io_fs (T.setVm vm₁) (ca 5) (ca 0) 8).heap[H.size + 1 + j]? = some (io_row (ca 0)) := fun j hj => by
    have h := io_fs_row (T.setVm vm₁) (ca 5) (ca 0) 8 j hj
    rw [hz] at h
    exact h
  have hout : (io_fs (T.setVm vm₁) (ca 5) (ca 0) 8).heap[H.size]? = some (vp_cell (ca 5) (8, .inr (.inr (.inr (.inr (fun i => some (H.size + 1 + i))))))) := by
    have h := io_fs_out (T.setVm vm₁) (ca 5) (ca 0) 8
    rw [hz] at h
    rw [h, vp_cell_q]
    unfold io_out
    congr 1
  have X2 : Stand p l e R s m args below meth c (io_fs (T.setVm vm₁) (ca 5) (ca 0) 8) locs (cells + 9) (slots + 328) := by
    refine Stand.forget X1 (fun q hq => ?_)
    obtain ⟨j, -, rfl⟩ := List.mem_map.mp hq
    show s.heap.size ≤ T.heap.size
    rw [hT]
    exact hS.1
  have hk0 : ∀ (k : Nat) (x : Nat × va_E), ws[k]? = some x → (io_fs (T.setVm vm₁) (ca 5) (ca 0) 8).heap[x.1]? = H[x.1]? := fun k x hx => hold x.1 ((hP k x hx).lt)
  have hP9 : va_P D vwCl (ws ++ [(H.size, .inl (ca 5, 8, .inr (.inr (.inr (.inr (fun i => some (H.size + 1 + i))))))), (H.size + 1, .inl (ca 0, 40, .inl (fun _ => 0))), (H.size + 2, .inl (ca 0, 40, .inl (fun _ => 0))), (H.size + 3, .inl (ca 0, 40, .inl (fun _ => 0))), (H.size + 4, .inl (ca 0, 40, .inl (fun _ => 0))), (H.size + 5, .inl (ca 0, 40, .inl (fun _ => 0))), (H.size + 6, .inl (ca 0, 40, .inl (fun _ => 0))), (H.size + 7, .inl (ca 0, 40, .inl (fun _ => 0))), (H.size + 8, .inl (ca 0, 40, .inl (fun _ => 0)))]) (io_fs (T.setVm vm₁) (ca 5) (ca 0) 8).heap := by
    refine (hP.kept hk0).app (fun k x hx => ?_)
    match k, hx with
    | 0, hx => cases hx; exact hout
    | 1, hx => cases hx; exact hrow 0 (by decide)
    | 2, hx => cases hx; exact hrow 1 (by decide)
    | 3, hx => cases hx; exact hrow 2 (by decide)
    | 4, hx => cases hx; exact hrow 3 (by decide)
    | 5, hx => cases hx; exact hrow 4 (by decide)
    | 6, hx => cases hx; exact hrow 5 (by decide)
    | 7, hx => cases hx; exact hrow 6 (by decide)
    | 8, hx => cases hx; exact hrow 7 (by decide)
    | k + 9, hx => cases hx
  have hD9 : va_D A (ws ++ [(H.size, .inl (ca 5, 8, .inr (.inr (.inr (.inr (fun i => some (H.size + 1 + i))))))), (H.size + 1, .inl (ca 0, 40, .inl (fun _ => 0))), (H.size + 2, .inl (ca 0, 40, .inl (fun _ => 0))), (H.size + 3, .inl (ca 0, 40, .inl (fun _ => 0))), (H.size + 4, .inl (ca 0, 40, .inl (fun _ => 0))), (H.size + 5, .inl (ca 0, 40, .inl (fun _ => 0))), (H.size + 6, .inl (ca 0, 40, .inl (fun _ => 0))), (H.size + 7, .inl (ca 0, 40, .inl (fun _ => 0))), (H.size + 8, .inl (ca 0, 40, .inl (fun _ => 0)))]) := by
    refine ⟨fun i j x y hi hj hxy => ?_, fun k x hx => ?_⟩
    · have key : ∀ (k : Nat) (x : Nat × va_E), (ws ++ [(H.size, .inl (ca 5, 8, .inr (.inr (.inr (.inr (fun i => some (H.size + 1 + i))))))), (H.size + 1, .inl (ca 0, 40, .inl (fun _ => 0))), (H.size + 2, .inl (ca 0, 40, .inl (fun _ => 0))), (H.size + 3, .inl (ca 0, 40, .inl (fun _ => 0))), (H.size + 4, .inl (ca 0, 40, .inl (fun _ => 0))), (H.size + 5, .inl (ca 0, 40, .inl (fun _ => 0))), (H.size + 6, .inl (ca 0, 40, .inl (fun _ => 0))), (H.size + 7, .inl (ca 0, 40, .inl (fun _ => 0))), (H.size + 8, .inl (ca 0, 40, .inl (fun _ => 0)))])[k]? = some x → (k < ws.length ∧ ws[k]? = some x ∧ x.1 < H.size) ∨ (ws.length ≤ k ∧ x.1 = H.size + (k - ws.length)) := by
        intro k x hx
        by_cases hl : k < ws.length
        · rw [List.getElem?_append_left hl] at hx
          exact Or.inl ⟨hl, hx, (hP k x hx).lt⟩
        · rw [List.getElem?_append_right (by omega)] at hx
          refine Or.inr ⟨by omega, ?_⟩
          generalize k - ws.length = z at hx
          match z, hx with
          | 0, hx => cases hx; rfl
          | 1, hx => cases hx; rfl
          | 2, hx => cases hx; rfl
          | 3, hx => cases hx; rfl
          | 4, hx => cases hx; rfl
          | 5, hx => cases hx; rfl
          | 6, hx => cases hx; rfl
          | 7, hx => cases hx; rfl
          | 8, hx => cases hx; rfl
          | z + 9, hx => cases hx
      rcases key i x hi with ⟨a1, a2, a3⟩ | ⟨a1, a2⟩ <;> rcases key j y hj with ⟨b1, b2, b3⟩ | ⟨b1, b2⟩
      · exact hD.1 i j x y a2 b2 hxy
      · omega
      · omega
      · omega
    · by_cases hl : k < ws.length
      · rw [List.getElem?_append_left hl] at hx
        exact hD.2 k x hx
      · rw [List.getElem?_append_right (by omega)] at hx
        apply hA
        have hz2 := hS.1
        generalize k - ws.length = z at hx
        match z, hx with
        | 0, hx => cases hx; exact hz2
        | 1, hx => cases hx; show s.heap.size ≤ H.size + 1; omega
        | 2, hx => cases hx; show s.heap.size ≤ H.size + 2; omega
        | 3, hx => cases hx; show s.heap.size ≤ H.size + 3; omega
        | 4, hx => cases hx; show s.heap.size ≤ H.size + 4; omega
        | 5, hx => cases hx; show s.heap.size ≤ H.size + 5; omega
        | 6, hx => cases hx; show s.heap.size ≤ H.size + 6; omega
        | 7, hx => cases hx; show s.heap.size ≤ H.size + 7; omega
        | 8, hx => cases hx; show s.heap.size ≤ H.size + 8; omega
        | z + 9, hx => cases hx
  obtain ⟨t, a1, b1⟩ := kk H.size (io_fs (T.setVm vm₁) (ca 5) (ca 0) 8).heap hP9 hD9 ⟨by rw [hsz]; have := hS.1; omega, fun x h1 h2 => (hold x (Nat.lt_of_lt_of_le h1 hS.1)).trans (hS.2.1 x h1 h2), hS.2.2⟩ _ rfl X2
  refine ⟨t, st t ?_, b1⟩
  show Steps _ _ _ (State.setTop _ (F0 m (pc + 4) ls (.ref T.heap.size :: rest))) t
  rw [hT]
  exact a1
end IC
