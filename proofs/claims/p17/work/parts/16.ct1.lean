def io_FF (D : va_G) (ca : Nat → ClassId) (A : Nat → Prop) (a : Nat) (H : Heap) : Prop := ∃ fp : Nat → Int32, (∀ j, j < 8 → fp j = 3) ∧ va_P D vwCl [(a, .inl (ca 0, 8, .inl fp))] H ∧ va_D A [(a, .inl (ca 0, 8, .inl fp))]
set_option maxHeartbeats 8000000 in
set_option maxRecDepth 200000 in
theorem ct_fill (l : Launch) (D : va_G) (ca : Nat → ClassId) (a sz : Nat) : Met l yJ7_fill_53178 (.code yJ7_fill_53178 cJ7_fill_53178 4 none :: io_tb) (io_rc 0 0 0) (va_Pc [.ref a, .int 3] (io_Pq D ca [(a, .inl (ca 0, 8, .inl (fun _ => 0)))] sz)) (va_Qv (fun _ : Unit => True) (fun _ t => io_FF D ca (va_A [(a, .inl (ca 0, 8, .inl (fun _ => 0)))] sz) a t.heap) (va_A [(a, .inl (ca 0, 8, .inl (fun _ => 0)))] sz)) 0 0 (va_A [(a, .inl (ca 0, 8, .inl (fun _ => 0)))] sz) := by
  refine Met.ofW (cc := cJ7_fill_53178) (maxL := 4) (ret := none) (by decide) rfl ?_
  intro p e s m args below meth c s₁ Bd hml hv
  obtain ⟨rfl, hsz, hP, hK, hD0⟩ := hv
  have B : CallFix p m c cJ7_fill_53178 4 s _ io_tb RJ7 := ⟨Bd.exec, Bd.bytes, hml, findClass_of_methodNamed Bd.named, fun w hw => atoms_spec (ws := (.code yJ7_fill_53178 cJ7_fill_53178 4 none :: io_tb)) Bd.pre w (List.mem_cons_of_mem _ hw)⟩
  have hr := Bd.returns
  have hlk := Bd.notSynchronized
  subst hsz
  have hD := hD0.self (sz := s.heap.size)
  generalize hAe : va_A [(a, .inl (ca 0, 8, .inl (fun _ => 0)))] s.heap.size = A at hD ⊢
  have hS : va_S A s.heap s.heap [] := va_S.rf
  have hl := lv_entry ([.ref a, .int 3]) (n := 4) (Nat.le_of_ble_eq_true rfl)
  rw [lg_entry_eq]
  generalize (lg_sl ([.ref a, .int 3]) ++ List.replicate (4 - (lg_sl ([.ref a, .int 3])).length) Slot.unset).toArray = ls at hl ⊢
  have hl : lv_has ls 4 [(0, .ref a), (1, .int 3)] := hl
  show W p l e (io_rc 0 0 0) s m _ below meth c s.heap [] 0 0 _ (F0 m 0 ls [])
  refine lv_iconst (v := 0) B.1 B.2.1 dJ7_fill_53178_0 (by decide) ?_
  refine lv_istore_n (lv' := [(2, .int 0), (0, .ref a), (1, .int 3)]) B.1 B.2.1 dJ7_fill_53178_1 rfl hl (by decide) rfl (fun ls hl => ?_)
  refine lv_aload_n B.1 B.2.1 dJ7_fill_53178_2 rfl (lv_at hl 1 rfl) ?_
  refine va_alen (v := 8) B.1 B.2.1 hK.1 hP 0 0 rfl (ty := .int) rfl rfl dJ7_fill_53178_3 ?_
  refine lv_istore_n (lv' := [(3, .int 8), (2, .int 0), (0, .ref a), (1, .int 3)]) B.1 B.2.1 dJ7_fill_53178_4 rfl hl (by decide) rfl (fun ls hl => ?_)
  refine lv_iload_n B.1 B.2.1 dJ7_fill_53178_5 rfl (lv_at hl 1 rfl) ?_
  refine lv_iload_n B.1 B.2.1 dJ7_fill_53178_6 rfl (lv_at hl 0 rfl) ?_
  refine lv_icmp_ge (tgt := 20) B.1 B.2.1 dJ7_fill_53178_7 (by decide) (fun q => absurd q (by decide)) (fun _ => ?_)
  refine lv_aload_n B.1 B.2.1 dJ7_fill_53178_10 rfl (lv_at hl 2 rfl) ?_
  refine lv_iload_n B.1 B.2.1 dJ7_fill_53178_11 rfl (lv_at hl 1 rfl) ?_
  refine lv_iload_n B.1 B.2.1 dJ7_fill_53178_12 rfl (lv_at hl 3 rfl) ?_
  refine va_iast B.1 B.2.1 hK.1 hP hD hS 0 0 rfl rfl (i := 0) (x := 3) (by unfold vp_in; decide) dJ7_fill_53178_13 (fun H locs hP hD hS => ?_)
  have hP : va_P D vwCl [(a, .inl (ca 0, 8, .inl (upd (fun _ => 0) (0 : Int32).toNatClampNeg 3)))] H := hP
  have hD : va_D A [(a, .inl (ca 0, 8, .inl (upd (fun _ => 0) (0 : Int32).toNatClampNeg 3)))] := hD
  refine lv_iinc (v := 1) (lv' := [(2, .int 1), (3, .int 8), (0, .ref a), (1, .int 3)]) B.1 B.2.1 dJ7_fill_53178_14 hl (k := 1) rfl (by decide) (by decide) rfl (fun ls hl => ?_)
  refine lv_goto (tgt := 5) B.1 B.2.1 dJ7_fill_53178_17 (by decide) ?_
  refine lv_iload_n B.1 B.2.1 dJ7_fill_53178_5 rfl (lv_at hl 0 rfl) ?_
  refine lv_iload_n B.1 B.2.1 dJ7_fill_53178_6 rfl (lv_at hl 1 rfl) ?_
  refine lv_icmp_ge (tgt := 20) B.1 B.2.1 dJ7_fill_53178_7 (by decide) (fun q => absurd q (by decide)) (fun _ => ?_)
  refine lv_aload_n B.1 B.2.1 dJ7_fill_53178_10 rfl (lv_at hl 2 rfl) ?_
  refine lv_iload_n B.1 B.2.1 dJ7_fill_53178_11 rfl (lv_at hl 0 rfl) ?_
  refine lv_iload_n B.1 B.2.1 dJ7_fill_53178_12 rfl (lv_at hl 3 rfl) ?_
  refine va_iast B.1 B.2.1 hK.1 hP hD hS 0 0 rfl rfl (i := 1) (x := 3) (by unfold vp_in; decide) dJ7_fill_53178_13 (fun H locs hP hD hS => ?_)
  have hP : va_P D vwCl [(a, .inl (ca 0, 8, .inl (upd (upd (fun _ => 0) (0 : Int32).toNatClampNeg 3) (1 : Int32).toNatClampNeg 3)))] H := hP
  have hD : va_D A [(a, .inl (ca 0, 8, .inl (upd (upd (fun _ => 0) (0 : Int32).toNatClampNeg 3) (1 : Int32).toNatClampNeg 3)))] := hD
  refine lv_iinc (v := 2) (lv' := [(2, .int 2), (3, .int 8), (0, .ref a), (1, .int 3)]) B.1 B.2.1 dJ7_fill_53178_14 hl (k := 0) rfl (by decide) (by decide) rfl (fun ls hl => ?_)
  refine lv_goto (tgt := 5) B.1 B.2.1 dJ7_fill_53178_17 (by decide) ?_
  refine lv_iload_n B.1 B.2.1 dJ7_fill_53178_5 rfl (lv_at hl 0 rfl) ?_
  refine lv_iload_n B.1 B.2.1 dJ7_fill_53178_6 rfl (lv_at hl 1 rfl) ?_
  refine lv_icmp_ge (tgt := 20) B.1 B.2.1 dJ7_fill_53178_7 (by decide) (fun q => absurd q (by decide)) (fun _ => ?_)
  refine lv_aload_n B.1 B.2.1 dJ7_fill_53178_10 rfl (lv_at hl 2 rfl) ?_
  refine lv_iload_n B.1 B.2.1 dJ7_fill_53178_11 rfl (lv_at hl 0 rfl) ?_
  refine lv_iload_n B.1 B.2.1 dJ7_fill_53178_12 rfl (lv_at hl 3 rfl) ?_
  refine va_iast B.1 B.2.1 hK.1 hP hD hS 0 0 rfl rfl (i := 2) (x := 3) (by unfold vp_in; decide) dJ7_fill_53178_13 (fun H locs hP hD hS => ?_)
  have hP : va_P D vwCl [(a, .inl (ca 0, 8, .inl (upd (upd (upd (fun _ => 0) (0 : Int32).toNatClampNeg 3) (1 : Int32).toNatClampNeg 3) (2 : Int32).toNatClampNeg 3)))] H := hP
  have hD : va_D A [(a, .inl (ca 0, 8, .inl (upd (upd (upd (fun _ => 0) (0 : Int32).toNatClampNeg 3) (1 : Int32).toNatClampNeg 3) (2 : Int32).toNatClampNeg 3)))] := hD
  refine lv_iinc (v := 3) (lv' := [(2, .int 3), (3, .int 8), (0, .ref a), (1, .int 3)]) B.1 B.2.1 dJ7_fill_53178_14 hl (k := 0) rfl (by decide) (by decide) rfl (fun ls hl => ?_)
  refine lv_goto (tgt := 5) B.1 B.2.1 dJ7_fill_53178_17 (by decide) ?_
  refine lv_iload_n B.1 B.2.1 dJ7_fill_53178_5 rfl (lv_at hl 0 rfl) ?_
  refine lv_iload_n B.1 B.2.1 dJ7_fill_53178_6 rfl (lv_at hl 1 rfl) ?_
  refine lv_icmp_ge (tgt := 20) B.1 B.2.1 dJ7_fill_53178_7 (by decide) (fun q => absurd q (by decide)) (fun _ => ?_)
  refine lv_aload_n B.1 B.2.1 dJ7_fill_53178_10 rfl (lv_at hl 2 rfl) ?_
  refine lv_iload_n B.1 B.2.1 dJ7_fill_53178_11 rfl (lv_at hl 0 rfl) ?_
  refine lv_iload_n B.1 B.2.1 dJ7_fill_53178_12 rfl (lv_at hl 3 rfl) ?_
  refine va_iast B.1 B.2.1 hK.1 hP hD hS 0 0 rfl rfl (i := 3) (x := 3) (by unfold vp_in; decide) dJ7_fill_53178_13 (fun H locs hP hD hS => ?_)
  have hP : va_P D vwCl [(a, .inl (ca 0, 8, .inl (upd (upd (upd (upd (fun _ => 0) (0 : Int32).toNatClampNeg 3) (1 : Int32).toNatClampNeg 3) (2 : Int32).toNatClampNeg 3) (3 : Int32).toNatClampNeg 3)))] H := hP
  have hD : va_D A [(a, .inl (ca 0, 8, .inl (upd (upd (upd (upd (fun _ => 0) (0 : Int32).toNatClampNeg 3) (1 : Int32).toNatClampNeg 3) (2 : Int32).toNatClampNeg 3) (3 : Int32).toNatClampNeg 3)))] := hD
  refine lv_iinc (v := 4) (lv' := [(2, .int 4), (3, .int 8), (0, .ref a), (1, .int 3)]) B.1 B.2.1 dJ7_fill_53178_14 hl (k := 0) rfl (by decide) (by decide) rfl (fun ls hl => ?_)
  refine lv_goto (tgt := 5) B.1 B.2.1 dJ7_fill_53178_17 (by decide) ?_
  refine lv_iload_n B.1 B.2.1 dJ7_fill_53178_5 rfl (lv_at hl 0 rfl) ?_
  refine lv_iload_n B.1 B.2.1 dJ7_fill_53178_6 rfl (lv_at hl 1 rfl) ?_
  refine lv_icmp_ge (tgt := 20) B.1 B.2.1 dJ7_fill_53178_7 (by decide) (fun q => absurd q (by decide)) (fun _ => ?_)
  refine lv_aload_n B.1 B.2.1 dJ7_fill_53178_10 rfl (lv_at hl 2 rfl) ?_
  refine lv_iload_n B.1 B.2.1 dJ7_fill_53178_11 rfl (lv_at hl 0 rfl) ?_
  refine lv_iload_n B.1 B.2.1 dJ7_fill_53178_12 rfl (lv_at hl 3 rfl) ?_
  refine va_iast B.1 B.2.1 hK.1 hP hD hS 0 0 rfl rfl (i := 4) (x := 3) (by unfold vp_in; decide) dJ7_fill_53178_13 (fun H locs hP hD hS => ?_)
  have hP : va_P D vwCl [(a, .inl (ca 0, 8, .inl (upd (upd (upd (upd (upd (fun _ => 0) (0 : Int32).toNatClampNeg 3) (1 : Int32).toNatClampNeg 3) (2 : Int32).toNatClampNeg 3) (3 : Int32).toNatClampNeg 3) (4 : Int32).toNatClampNeg 3)))] H := hP
  have hD : va_D A [(a, .inl (ca 0, 8, .inl (upd (upd (upd (upd (upd (fun _ => 0) (0 : Int32).toNatClampNeg 3) (1 : Int32).toNatClampNeg 3) (2 : Int32).toNatClampNeg 3) (3 : Int32).toNatClampNeg 3) (4 : Int32).toNatClampNeg 3)))] := hD
  refine lv_iinc (v := 5) (lv' := [(2, .int 5), (3, .int 8), (0, .ref a), (1, .int 3)]) B.1 B.2.1 dJ7_fill_53178_14 hl (k := 0) rfl (by decide) (by decide) rfl (fun ls hl => ?_)
  refine lv_goto (tgt := 5) B.1 B.2.1 dJ7_fill_53178_17 (by decide) ?_
  refine lv_iload_n B.1 B.2.1 dJ7_fill_53178_5 rfl (lv_at hl 0 rfl) ?_
  refine lv_iload_n B.1 B.2.1 dJ7_fill_53178_6 rfl (lv_at hl 1 rfl) ?_
  refine lv_icmp_ge (tgt := 20) B.1 B.2.1 dJ7_fill_53178_7 (by decide) (fun q => absurd q (by decide)) (fun _ => ?_)
  refine lv_aload_n B.1 B.2.1 dJ7_fill_53178_10 rfl (lv_at hl 2 rfl) ?_
  refine lv_iload_n B.1 B.2.1 dJ7_fill_53178_11 rfl (lv_at hl 0 rfl) ?_
  refine lv_iload_n B.1 B.2.1 dJ7_fill_53178_12 rfl (lv_at hl 3 rfl) ?_
  refine va_iast B.1 B.2.1 hK.1 hP hD hS 0 0 rfl rfl (i := 5) (x := 3) (by unfold vp_in; decide) dJ7_fill_53178_13 (fun H locs hP hD hS => ?_)
  have hP : va_P D vwCl [(a, .inl (ca 0, 8, .inl (upd (upd (upd (upd (upd (upd (fun _ => 0) (0 : Int32).toNatClampNeg 3) (1 : Int32).toNatClampNeg 3) (2 : Int32).toNatClampNeg 3) (3 : Int32).toNatClampNeg 3) (4 : Int32).toNatClampNeg 3) (5 : Int32).toNatClampNeg 3)))] H := hP
  have hD : va_D A [(a, .inl (ca 0, 8, .inl (upd (upd (upd (upd (upd (upd (fun _ => 0) (0 : Int32).toNatClampNeg 3) (1 : Int32).toNatClampNeg 3) (2 : Int32).toNatClampNeg 3) (3 : Int32).toNatClampNeg 3) (4 : Int32).toNatClampNeg 3) (5 : Int32).toNatClampNeg 3)))] := hD
  refine lv_iinc (v := 6) (lv' := [(2, .int 6), (3, .int 8), (0, .ref a), (1, .int 3)]) B.1 B.2.1 dJ7_fill_53178_14 hl (k := 0) rfl (by decide) (by decide) rfl (fun ls hl => ?_)
  refine lv_goto (tgt := 5) B.1 B.2.1 dJ7_fill_53178_17 (by decide) ?_
  refine lv_iload_n B.1 B.2.1 dJ7_fill_53178_5 rfl (lv_at hl 0 rfl) ?_
  refine lv_iload_n B.1 B.2.1 dJ7_fill_53178_6 rfl (lv_at hl 1 rfl) ?_
  refine lv_icmp_ge (tgt := 20) B.1 B.2.1 dJ7_fill_53178_7 (by decide) (fun q => absurd q (by decide)) (fun _ => ?_)
  refine lv_aload_n B.1 B.2.1 dJ7_fill_53178_10 rfl (lv_at hl 2 rfl) ?_
  refine lv_iload_n B.1 B.2.1 dJ7_fill_53178_11 rfl (lv_at hl 0 rfl) ?_
  refine lv_iload_n B.1 B.2.1 dJ7_fill_53178_12 rfl (lv_at hl 3 rfl) ?_
  refine va_iast B.1 B.2.1 hK.1 hP hD hS 0 0 rfl rfl (i := 6) (x := 3) (by unfold vp_in; decide) dJ7_fill_53178_13 (fun H locs hP hD hS => ?_)
  have hP : va_P D vwCl [(a, .inl (ca 0, 8, .inl (upd (upd (upd (upd (upd (upd (upd (fun _ => 0) (0 : Int32).toNatClampNeg 3) (1 : Int32).toNatClampNeg 3) (2 : Int32).toNatClampNeg 3) (3 : Int32).toNatClampNeg 3) (4 : Int32).toNatClampNeg 3) (5 : Int32).toNatClampNeg 3) (6 : Int32).toNatClampNeg 3)))] H := hP
  have hD : va_D A [(a, .inl (ca 0, 8, .inl (upd (upd (upd (upd (upd (upd (upd (fun _ => 0) (0 : Int32).toNatClampNeg 3) (1 : Int32).toNatClampNeg 3) (2 : Int32).toNatClampNeg 3) (3 : Int32).toNatClampNeg 3) (4 : Int32).toNatClampNeg 3) (5 : Int32).toNatClampNeg 3) (6 : Int32).toNatClampNeg 3)))] := hD
  refine lv_iinc (v := 7) (lv' := [(2, .int 7), (3, .int 8), (0, .ref a), (1, .int 3)]) B.1 B.2.1 dJ7_fill_53178_14 hl (k := 0) rfl (by decide) (by decide) rfl (fun ls hl => ?_)
  refine lv_goto (tgt := 5) B.1 B.2.1 dJ7_fill_53178_17 (by decide) ?_
  refine lv_iload_n B.1 B.2.1 dJ7_fill_53178_5 rfl (lv_at hl 0 rfl) ?_
  refine lv_iload_n B.1 B.2.1 dJ7_fill_53178_6 rfl (lv_at hl 1 rfl) ?_
  refine lv_icmp_ge (tgt := 20) B.1 B.2.1 dJ7_fill_53178_7 (by decide) (fun q => absurd q (by decide)) (fun _ => ?_)
  refine lv_aload_n B.1 B.2.1 dJ7_fill_53178_10 rfl (lv_at hl 2 rfl) ?_
  refine lv_iload_n B.1 B.2.1 dJ7_fill_53178_11 rfl (lv_at hl 0 rfl) ?_
  refine lv_iload_n B.1 B.2.1 dJ7_fill_53178_12 rfl (lv_at hl 3 rfl) ?_
  refine va_iast B.1 B.2.1 hK.1 hP hD hS 0 0 rfl rfl (i := 7) (x := 3) (by unfold vp_in; decide) dJ7_fill_53178_13 (fun H locs hP hD hS => ?_)
  have hP : va_P D vwCl [(a, .inl (ca 0, 8, .inl (upd (upd (upd (upd (upd (upd (upd (upd (fun _ => 0) (0 : Int32).toNatClampNeg 3) (1 : Int32).toNatClampNeg 3) (2 : Int32).toNatClampNeg 3) (3 : Int32).toNatClampNeg 3) (4 : Int32).toNatClampNeg 3) (5 : Int32).toNatClampNeg 3) (6 : Int32).toNatClampNeg 3) (7 : Int32).toNatClampNeg 3)))] H := hP
  have hD : va_D A [(a, .inl (ca 0, 8, .inl (upd (upd (upd (upd (upd (upd (upd (upd (fun _ => 0) (0 : Int32).toNatClampNeg 3) (1 : Int32).toNatClampNeg 3) (2 : Int32).toNatClampNeg 3) (3 : Int32).toNatClampNeg 3) (4 : Int32).toNatClampNeg 3) (5 : Int32).toNatClampNeg 3) (6 : Int32).toNatClampNeg 3) (7 : Int32).toNatClampNeg 3)))] := hD
  refine lv_iinc (v := 8) (lv' := [(2, .int 8), (3, .int 8), (0, .ref a), (1, .int 3)]) B.1 B.2.1 dJ7_fill_53178_14 hl (k := 0) rfl (by decide) (by decide) rfl (fun ls hl => ?_)
  refine lv_goto (tgt := 5) B.1 B.2.1 dJ7_fill_53178_17 (by decide) ?_
  refine lv_iload_n B.1 B.2.1 dJ7_fill_53178_5 rfl (lv_at hl 0 rfl) ?_
  refine lv_iload_n B.1 B.2.1 dJ7_fill_53178_6 rfl (lv_at hl 1 rfl) ?_
  refine lv_icmp_ge (tgt := 20) B.1 B.2.1 dJ7_fill_53178_7 (by decide) (fun _ => ?_) (fun q => absurd q (by decide))
  exact W.vret B.1 B.2.1 hr (fun t ht hW => ⟨⟨(), rfl, trivial, by show io_FF D ca A a t.heap; rw [ht]; exact ⟨_, (by decide), hP, hD⟩⟩, hS.F ht⟩) hS.2.2 dJ7_fill_53178_20
section IFC
variable {p : Program} {l : Launch} {e : Env} {R : Room} {s : State} {m : MethodId} {args : Array Value} {below : List Frame} {meth : Method} {c : Code} {H : Heap} {locs : List Loc} {cells slots : Nat} {Q : State → Prop} {cc : ByteArray} {pc nL : Nat} {ls : Array Slot} {D : va_G} {ca : Nat → ClassId} {A : Nat → Prop} {own : String} {index : Nat} {ws : va_W}
theorem io_fillC {a : Nat} (B : CallFix p m c cc nL s args io_tb own) (hK : io_BK D ca s) (hP : va_P D vwCl ws H) (hD : va_D A ws) (hS : va_S A s.heap H locs) (hA : ∀ q, s.heap.size ≤ q → A q) (pos : Nat) (hC : [pos].map (fun i => ws[i]?) = ([(a, .inl (ca 0, 8, .inl (fun _ => 0)))] : va_W).map some) (hPc : va_P D vwCl [(a, .inl (ca 0, 8, .inl (fun _ => 0)))] H) (hDc : va_D A [(a, .inl (ca 0, 8, .inl (fun _ => 0)))]) (hk : io_LkS own index yJ7_fill_53178 cJ7_fill_53178 4 none 2) (hls : ls.size = nL) (hdg : decode cc pc = .ok (.invokestatic index, 3)) (hR : 0 + 1 ≤ R.frames ∧ 8 + (4 + 11) + 40 * 0 ≤ R.locals) (hcs : cells ≤ R.cells ∧ slots ≤ R.slots)
    (kk : ∀ (H1 : Heap) (locs1 : List Loc), io_FF D ca (va_A [(a, .inl (ca 0, 8, .inl (fun _ => 0)))] H.size) a H1 → (∀ q : Nat, q < H.size → ¬ va_A [(a, .inl (ca 0, 8, .inl (fun _ => 0)))] H.size q → H1[q]? = H[q]?) → va_S A s.heap H1 locs1 → (∀ q, va_A [(a, .inl (ca 0, 8, .inl (fun _ => 0)))] H.size q → A q) → W p l e R s m args below meth c H1 locs1 cells slots Q (F0 m (pc + 3) ls [])) : W p l e R s m args below meth c H locs cells slots Q (F0 m pc ls [.int 3, .ref a]) := by
  have hFc := va_free (wc := [(a, .inl (ca 0, 8, .inl (fun _ => 0)))]) hD hS hA [pos] hC
  obtain ⟨hd, h1, h2, h3, h5⟩ := hk
  have hrun : va_Run p l e R s m args below meth c H locs cells slots 0 0 (F0 m pc ls [.int 3, .ref a]) [] (va_Qv (fun _ : Unit => True) (fun _ t => io_FF D ca (va_A [(a, .inl (ca 0, 8, .inl (fun _ => 0)))] H.size) a t.heap) (va_A [(a, .inl (ca 0, 8, .inl (fun _ => 0)))] H.size) ([.ref a, .int 3] : List Value).toArray) (va_A [(a, .inl (ca 0, 8, .inl (fun _ => 0)))] H.size) :=
    va_runS (As := [.ref a, .int 3]) (rest := []) B (ct_fill l D ca a H.size) ⟨callB_of 2 B.2.2.2.2 (io_code_in h5) rfl rfl rfl (B.2.2.2.2 _ h3) (B.2.2.2.2 _ h1) hd hR, B.2.2.2.2 _ h2⟩ ⟨io_Pq.blind, fun U hU hW => ⟨rfl, by rw [hU], by rw [hU]; exact hPc, hK.warm hW, hDc.weaken (fun _ _ _ _ => trivial)⟩⟩ rfl rfl hls rfl (lv_room (Nat.le_of_ble_eq_true rfl)) hdg hcs
  exact va_callv hrun hS (fun q _ h => hFc q h) hFc (fun u t H1 locs1 ht hvm hp hB hz hk1 hS1 => kk H1 locs1 (by rw [← ht]; exact hB) hk1 hS1 hFc)
end IFC
def io_F_X0_init (D : va_G) (ca : Nat → ClassId) (A : Nat → Prop) (h0 : Nat) (H : Heap) : Prop := ∃ q1 q2 : Nat, va_P D vwCl [(h0, .inr (0, [.ref q1, .ref q2, .int 0, .int 0, .int 0])), (q1, .inl (ca 0, 100, .inl (fun _ => 0))), (q2, .inl (ca 0, 200, .inl (fun _ => 0)))] H ∧ va_D A [(h0, .inr (0, [.ref q1, .ref q2, .int 0, .int 0, .int 0])), (q1, .inl (ca 0, 100, .inl (fun _ => 0))), (q2, .inl (ca 0, 200, .inl (fun _ => 0)))]
set_option maxHeartbeats 8000000 in
set_option maxRecDepth 200000 in
theorem ct_X0_init (l : Launch) (D : va_G) (ca : Nat → ClassId) (h0 : Nat) (sz : Nat) : Met l yX0_init (.code yX0_init cX0_init 1 none :: io_tb) (io_rc 1 2 300) (va_Pc [.ref h0] (io_Pq D ca [(h0, .inr (0, [.null, .null, .int 0, .int 0, .int 0]))] sz)) (va_Qv (fun _ : Unit => True) (fun _ t => io_F_X0_init D ca (va_A [(h0, .inr (0, [.null, .null, .int 0, .int 0, .int 0]))] sz) h0 t.heap) (va_A [(h0, .inr (0, [.null, .null, .int 0, .int 0, .int 0]))] sz)) 2 300 (va_A [(h0, .inr (0, [.null, .null, .int 0, .int 0, .int 0]))] sz) := by
  refine Met.ofW (cc := cX0_init) (maxL := 1) (ret := none) (by decide) rfl ?_
  intro p e s m args below meth c s₁ Bd hml hv
  obtain ⟨rfl, hsz, hP, hK, hD0⟩ := hv
  have B : CallFix p m c cX0_init 1 s _ io_tb RX0 := ⟨Bd.exec, Bd.bytes, hml, findClass_of_methodNamed Bd.named, fun w hw => atoms_spec (ws := (.code yX0_init cX0_init 1 none :: io_tb)) Bd.pre w (List.mem_cons_of_mem _ hw)⟩
  have hr := Bd.returns
  have hlk := Bd.notSynchronized
  have hin : meth.name = "<init>" := (name_of_methodNamed Bd.named Bd.method).1
  subst hsz
  have hD := hD0.self (sz := s.heap.size)
  generalize hAe : va_A [(h0, .inr (0, [.null, .null, .int 0, .int 0, .int 0]))] s.heap.size = A at hD ⊢
  have hA : ∀ q : Nat, s.heap.size ≤ q → A q := fun q h => by rw [← hAe]; exact Or.inr h
  have hS : va_S A s.heap s.heap [] := va_S.rf
  have hl := lv_entry ([.ref h0]) (n := 1) (Nat.le_of_ble_eq_true rfl)
  rw [lg_entry_eq]
  generalize (lg_sl ([.ref h0]) ++ List.replicate (1 - (lg_sl ([.ref h0])).length) Slot.unset).toArray = ls at hl ⊢
  have hl : lv_has ls 1 [(0, .ref h0)] := hl
  show W p l e (io_rc 1 2 300) s m _ below meth c s.heap [] 0 0 _ (F0 m 0 ls [])
  refine lv_aload_n B.1 B.2.1 dX0_init_0 rfl (lv_at hl 0 rfl) ?_
  refine W.objInit B.1 B.2.1 B.2.2.2.1 (B.2.2.2.2 _ (io_of 121 (by decide +kernel) (by decide +kernel))) (B.2.2.2.2 _ (io_of 85 (by decide +kernel) (by decide +kernel))) (B.2.2.2.2 _ (io_of 86 (by decide +kernel) (by decide +kernel))) rfl (by rw [B.2.2.1]; exact hl.1) rfl dX0_init_1 (Nat.le_of_ble_eq_true rfl) (Nat.le_of_ble_eq_true rfl) ?_
  refine W.eq (g2 := F0 m 4 ls []) rfl ?_
  refine lv_aload_n B.1 B.2.1 dX0_init_4 rfl (lv_at hl 0 rfl) ?_
  refine lv_bipush (v := 100) B.1 B.2.1 dX0_init_5 (by decide) ?_
  refine io_newa 0 (ty := .int) rfl rfl (io_of 115 (by decide +kernel) (by decide +kernel)) (fun _ _ => rfl) (by decide) B hK.1 hP hD hS hA (by decide) (N' := 100) (by decide) (by decide) (Nat.le_of_ble_eq_true rfl) (Nat.le_of_ble_eq_true rfl) dX0_init_7 (fun q1 H hP hD hS => ?_)
  have hP : va_P D vwCl [(h0, .inr (0, [.null, .null, .int 0, .int 0, .int 0])), (q1, .inl (ca 0, 100, .inl (fun _ => 0)))] H := hP
  have hD : va_D A [(h0, .inr (0, [.null, .null, .int 0, .int 0, .int 0])), (q1, .inl (ca 0, 100, .inl (fun _ => 0)))] := hD
  refine va_putF (D := D) (ci := 0) (v := .ref q1) (ty := (.array .int)) (C := RX0) (T := TX0) (N := 5) B.1 B.2.1 B.2.2.2.2 io_in0 tyX0 tyX0_ok nmX0 B.2.2.2.1 hK.1 hP hD hS 0 rfl rfl 0 (by decide) (B.2.2.2.2 _ (io_of 122 (by decide +kernel) (by decide +kernel))) (fun _ h9 => h9) rfl hin rfl (by decide +kernel) rfl rfl (Nat.le_of_ble_eq_true rfl) dX0_init_9 (fun H locs hP hD hS => ?_)
  have hP : va_P D vwCl [(h0, .inr (0, [.ref q1, .null, .int 0, .int 0, .int 0])), (q1, .inl (ca 0, 100, .inl (fun _ => 0)))] H := hP
  have hD : va_D A [(h0, .inr (0, [.ref q1, .null, .int 0, .int 0, .int 0])), (q1, .inl (ca 0, 100, .inl (fun _ => 0)))] := hD
  refine lv_aload_n B.1 B.2.1 dX0_init_12 rfl (lv_at hl 0 rfl) ?_
  refine lv_sipush (v := 200) B.1 B.2.1 dX0_init_13 (by decide) ?_
  refine io_newa 0 (ty := .int) rfl rfl (io_of 115 (by decide +kernel) (by decide +kernel)) (fun _ _ => rfl) (by decide) B hK.1 hP hD hS hA (by decide) (N' := 200) (by decide) (by decide) (Nat.le_of_ble_eq_true rfl) (Nat.le_of_ble_eq_true rfl) dX0_init_16 (fun q2 H hP hD hS => ?_)
  have hP : va_P D vwCl [(h0, .inr (0, [.ref q1, .null, .int 0, .int 0, .int 0])), (q1, .inl (ca 0, 100, .inl (fun _ => 0))), (q2, .inl (ca 0, 200, .inl (fun _ => 0)))] H := hP
  have hD : va_D A [(h0, .inr (0, [.ref q1, .null, .int 0, .int 0, .int 0])), (q1, .inl (ca 0, 100, .inl (fun _ => 0))), (q2, .inl (ca 0, 200, .inl (fun _ => 0)))] := hD
  refine va_putF (D := D) (ci := 0) (v := .ref q2) (ty := (.array .int)) (C := RX0) (T := TX0) (N := 5) B.1 B.2.1 B.2.2.2.2 io_in0 tyX0 tyX0_ok nmX0 B.2.2.2.1 hK.1 hP hD hS 0 rfl rfl 1 (by decide) (B.2.2.2.2 _ (io_of 123 (by decide +kernel) (by decide +kernel))) (fun _ h9 => h9) rfl hin rfl (by decide +kernel) rfl rfl (Nat.le_of_ble_eq_true rfl) dX0_init_18 (fun H locs hP hD hS => ?_)
  have hP : va_P D vwCl [(h0, .inr (0, [.ref q1, .ref q2, .int 0, .int 0, .int 0])), (q1, .inl (ca 0, 100, .inl (fun _ => 0))), (q2, .inl (ca 0, 200, .inl (fun _ => 0)))] H := hP
  have hD : va_D A [(h0, .inr (0, [.ref q1, .ref q2, .int 0, .int 0, .int 0])), (q1, .inl (ca 0, 100, .inl (fun _ => 0))), (q2, .inl (ca 0, 200, .inl (fun _ => 0)))] := hD
  refine lv_aload_n B.1 B.2.1 dX0_init_21 rfl (lv_at hl 0 rfl) ?_
  refine lv_iconst (v := 0) B.1 B.2.1 dX0_init_22 (by decide) ?_
  refine va_put (D := D) (ci := 0) (v := .int 0) (ty := .int) (C := RX0) (T := TX0) (N := 5) B.1 B.2.1 B.2.2.2.2 io_in0 tyX0 tyX0_ok nmX0 B.2.2.2.1 hK.1 hP hD hS 0 rfl rfl 2 (by decide) (B.2.2.2.2 _ (io_of 124 (by decide +kernel) (by decide +kernel))) (fun _ h9 => h9) rfl (by decide +kernel) rfl rfl (Nat.le_of_ble_eq_true rfl) dX0_init_23 (fun H locs hP hD hS => ?_)
  have hP : va_P D vwCl [(h0, .inr (0, [.ref q1, .ref q2, .int 0, .int 0, .int 0])), (q1, .inl (ca 0, 100, .inl (fun _ => 0))), (q2, .inl (ca 0, 200, .inl (fun _ => 0)))] H := hP
  have hD : va_D A [(h0, .inr (0, [.ref q1, .ref q2, .int 0, .int 0, .int 0])), (q1, .inl (ca 0, 100, .inl (fun _ => 0))), (q2, .inl (ca 0, 200, .inl (fun _ => 0)))] := hD
  refine lv_aload_n B.1 B.2.1 dX0_init_26 rfl (lv_at hl 0 rfl) ?_
  refine lv_iconst (v := 0) B.1 B.2.1 dX0_init_27 (by decide) ?_
  refine va_put (D := D) (ci := 0) (v := .int 0) (ty := .int) (C := RX0) (T := TX0) (N := 5) B.1 B.2.1 B.2.2.2.2 io_in0 tyX0 tyX0_ok nmX0 B.2.2.2.1 hK.1 hP hD hS 0 rfl rfl 3 (by decide) (B.2.2.2.2 _ (io_of 125 (by decide +kernel) (by decide +kernel))) (fun _ h9 => h9) rfl (by decide +kernel) rfl rfl (Nat.le_of_ble_eq_true rfl) dX0_init_28 (fun H locs hP hD hS => ?_)
  have hP : va_P D vwCl [(h0, .inr (0, [.ref q1, .ref q2, .int 0, .int 0, .int 0])), (q1, .inl (ca 0, 100, .inl (fun _ => 0))), (q2, .inl (ca 0, 200, .inl (fun _ => 0)))] H := hP
  have hD : va_D A [(h0, .inr (0, [.ref q1, .ref q2, .int 0, .int 0, .int 0])), (q1, .inl (ca 0, 100, .inl (fun _ => 0))), (q2, .inl (ca 0, 200, .inl (fun _ => 0)))] := hD
  refine lv_aload_n B.1 B.2.1 dX0_init_31 rfl (lv_at hl 0 rfl) ?_
  refine lv_iconst (v := 0) B.1 B.2.1 dX0_init_32 (by decide) ?_
  refine va_put (D := D) (ci := 0) (v := .int 0) (ty := .int) (C := RX0) (T := TX0) (N := 5) B.1 B.2.1 B.2.2.2.2 io_in0 tyX0 tyX0_ok nmX0 B.2.2.2.1 hK.1 hP hD hS 0 rfl rfl 4 (by decide) (B.2.2.2.2 _ (io_of 126 (by decide +kernel) (by decide +kernel))) (fun _ h9 => h9) rfl (by decide +kernel) rfl rfl (Nat.le_of_ble_eq_true rfl) dX0_init_33 (fun H locs hP hD hS => ?_)
  have hP : va_P D vwCl [(h0, .inr (0, [.ref q1, .ref q2, .int 0, .int 0, .int 0])), (q1, .inl (ca 0, 100, .inl (fun _ => 0))), (q2, .inl (ca 0, 200, .inl (fun _ => 0)))] H := hP
  have hD : va_D A [(h0, .inr (0, [.ref q1, .ref q2, .int 0, .int 0, .int 0])), (q1, .inl (ca 0, 100, .inl (fun _ => 0))), (q2, .inl (ca 0, 200, .inl (fun _ => 0)))] := hD
  have hP9 := hP.sub (ws' := [(h0, .inr (0, [.ref q1, .ref q2, .int 0, .int 0, .int 0])), (q1, .inl (ca 0, 100, .inl (fun _ => 0))), (q2, .inl (ca 0, 200, .inl (fun _ => 0)))]) [0, 1, 2] rfl
  have hD9 := hD.sub (ws' := [(h0, .inr (0, [.ref q1, .ref q2, .int 0, .int 0, .int 0])), (q1, .inl (ca 0, 100, .inl (fun _ => 0))), (q2, .inl (ca 0, 200, .inl (fun _ => 0)))]) [0, 1, 2] (by decide) rfl
  exact W.vret B.1 B.2.1 hr (fun t ht hW => ⟨⟨(), rfl, trivial, by show io_F_X0_init D ca A h0 t.heap; rw [ht]; exact ⟨q1, q2, hP9, hD9⟩⟩, hS.F ht⟩) hS.2.2 dX0_init_36
def io_F_X7_init (D : va_G) (ca : Nat → ClassId) (A : Nat → Prop) (h0 : Nat) (H : Heap) : Prop := ∃ q1 q2 q3 q4 : Nat, va_P D vwCl [(h0, .inr (7, [.ref q1, .ref q2, .ref q3, .ref q4, .int 0])), (q1, .inl (ca 0, 60, .inl (fun _ => 0))), (q2, .inl (ca 0, 60, .inl (fun _ => 0))), (q3, .inl (ca 0, 60, .inl (fun _ => 0))), (q4, .inl (ca 0, 60, .inl (fun _ => 0)))] H ∧ va_D A [(h0, .inr (7, [.ref q1, .ref q2, .ref q3, .ref q4, .int 0])), (q1, .inl (ca 0, 60, .inl (fun _ => 0))), (q2, .inl (ca 0, 60, .inl (fun _ => 0))), (q3, .inl (ca 0, 60, .inl (fun _ => 0))), (q4, .inl (ca 0, 60, .inl (fun _ => 0)))]
set_option maxHeartbeats 8000000 in
set_option maxRecDepth 200000 in
theorem ct_X7_init (l : Launch) (D : va_G) (ca : Nat → ClassId) (h0 : Nat) (sz : Nat) : Met l yX7_init (.code yX7_init cX7_init 1 none :: io_tb) (io_rc 1 4 240) (va_Pc [.ref h0] (io_Pq D ca [(h0, .inr (7, [.null, .null, .null, .null, .int 0]))] sz)) (va_Qv (fun _ : Unit => True) (fun _ t => io_F_X7_init D ca (va_A [(h0, .inr (7, [.null, .null, .null, .null, .int 0]))] sz) h0 t.heap) (va_A [(h0, .inr (7, [.null, .null, .null, .null, .int 0]))] sz)) 4 240 (va_A [(h0, .inr (7, [.null, .null, .null, .null, .int 0]))] sz) := by
  refine Met.ofW (cc := cX7_init) (maxL := 1) (ret := none) (by decide) rfl ?_
  intro p e s m args below meth c s₁ Bd hml hv
  obtain ⟨rfl, hsz, hP, hK, hD0⟩ := hv
  have B : CallFix p m c cX7_init 1 s _ io_tb RX7 := ⟨Bd.exec, Bd.bytes, hml, findClass_of_methodNamed Bd.named, fun w hw => atoms_spec (ws := (.code yX7_init cX7_init 1 none :: io_tb)) Bd.pre w (List.mem_cons_of_mem _ hw)⟩
  have hr := Bd.returns
  have hlk := Bd.notSynchronized
  have hin : meth.name = "<init>" := (name_of_methodNamed Bd.named Bd.method).1
  subst hsz
  have hD := hD0.self (sz := s.heap.size)
  generalize hAe : va_A [(h0, .inr (7, [.null, .null, .null, .null, .int 0]))] s.heap.size = A at hD ⊢
  have hA : ∀ q : Nat, s.heap.size ≤ q → A q := fun q h => by rw [← hAe]; exact Or.inr h
  have hS : va_S A s.heap s.heap [] := va_S.rf
  have hl := lv_entry ([.ref h0]) (n := 1) (Nat.le_of_ble_eq_true rfl)
  rw [lg_entry_eq]
  generalize (lg_sl ([.ref h0]) ++ List.replicate (1 - (lg_sl ([.ref h0])).length) Slot.unset).toArray = ls at hl ⊢
  have hl : lv_has ls 1 [(0, .ref h0)] := hl
  show W p l e (io_rc 1 4 240) s m _ below meth c s.heap [] 0 0 _ (F0 m 0 ls [])
  refine lv_aload_n B.1 B.2.1 dX7_init_0 rfl (lv_at hl 0 rfl) ?_
  refine W.objInit B.1 B.2.1 B.2.2.2.1 (B.2.2.2.2 _ (io_of 143 (by decide +kernel) (by decide +kernel))) (B.2.2.2.2 _ (io_of 85 (by decide +kernel) (by decide +kernel))) (B.2.2.2.2 _ (io_of 86 (by decide +kernel) (by decide +kernel))) rfl (by rw [B.2.2.1]; exact hl.1) rfl dX7_init_1 (Nat.le_of_ble_eq_true rfl) (Nat.le_of_ble_eq_true rfl) ?_
  refine W.eq (g2 := F0 m 4 ls []) rfl ?_
  refine lv_aload_n B.1 B.2.1 dX7_init_4 rfl (lv_at hl 0 rfl) ?_
  refine lv_bipush (v := 60) B.1 B.2.1 dX7_init_5 (by decide) ?_
  refine io_newa 0 (ty := .int) rfl rfl (io_of 115 (by decide +kernel) (by decide +kernel)) (fun _ _ => rfl) (by decide) B hK.1 hP hD hS hA (by decide) (N' := 60) (by decide) (by decide) (Nat.le_of_ble_eq_true rfl) (Nat.le_of_ble_eq_true rfl) dX7_init_7 (fun q1 H hP hD hS => ?_)
  have hP : va_P D vwCl [(h0, .inr (7, [.null, .null, .null, .null, .int 0])), (q1, .inl (ca 0, 60, .inl (fun _ => 0)))] H := hP
  have hD : va_D A [(h0, .inr (7, [.null, .null, .null, .null, .int 0])), (q1, .inl (ca 0, 60, .inl (fun _ => 0)))] := hD
  refine va_putF (D := D) (ci := 7) (v := .ref q1) (ty := (.array .int)) (C := RX7) (T := TX7) (N := 5) B.1 B.2.1 B.2.2.2.2 io_in7 tyX7 tyX7_ok nmX7 B.2.2.2.1 hK.1 hP hD hS 0 rfl rfl 0 (by decide) (B.2.2.2.2 _ (io_of 144 (by decide +kernel) (by decide +kernel))) (fun _ h9 => h9) rfl hin rfl (by decide +kernel) rfl rfl (Nat.le_of_ble_eq_true rfl) dX7_init_9 (fun H locs hP hD hS => ?_)
  have hP : va_P D vwCl [(h0, .inr (7, [.ref q1, .null, .null, .null, .int 0])), (q1, .inl (ca 0, 60, .inl (fun _ => 0)))] H := hP
  have hD : va_D A [(h0, .inr (7, [.ref q1, .null, .null, .null, .int 0])), (q1, .inl (ca 0, 60, .inl (fun _ => 0)))] := hD
  refine lv_aload_n B.1 B.2.1 dX7_init_12 rfl (lv_at hl 0 rfl) ?_
  refine lv_bipush (v := 60) B.1 B.2.1 dX7_init_13 (by decide) ?_
  refine io_newa 0 (ty := .int) rfl rfl (io_of 115 (by decide +kernel) (by decide +kernel)) (fun _ _ => rfl) (by decide) B hK.1 hP hD hS hA (by decide) (N' := 60) (by decide) (by decide) (Nat.le_of_ble_eq_true rfl) (Nat.le_of_ble_eq_true rfl) dX7_init_15 (fun q2 H hP hD hS => ?_)
  have hP : va_P D vwCl [(h0, .inr (7, [.ref q1, .null, .null, .null, .int 0])), (q1, .inl (ca 0, 60, .inl (fun _ => 0))), (q2, .inl (ca 0, 60, .inl (fun _ => 0)))] H := hP
  have hD : va_D A [(h0, .inr (7, [.ref q1, .null, .null, .null, .int 0])), (q1, .inl (ca 0, 60, .inl (fun _ => 0))), (q2, .inl (ca 0, 60, .inl (fun _ => 0)))] := hD
  refine va_putF (D := D) (ci := 7) (v := .ref q2) (ty := (.array .int)) (C := RX7) (T := TX7) (N := 5) B.1 B.2.1 B.2.2.2.2 io_in7 tyX7 tyX7_ok nmX7 B.2.2.2.1 hK.1 hP hD hS 0 rfl rfl 1 (by decide) (B.2.2.2.2 _ (io_of 145 (by decide +kernel) (by decide +kernel))) (fun _ h9 => h9) rfl hin rfl (by decide +kernel) rfl rfl (Nat.le_of_ble_eq_true rfl) dX7_init_17 (fun H locs hP hD hS => ?_)
  have hP : va_P D vwCl [(h0, .inr (7, [.ref q1, .ref q2, .null, .null, .int 0])), (q1, .inl (ca 0, 60, .inl (fun _ => 0))), (q2, .inl (ca 0, 60, .inl (fun _ => 0)))] H := hP
  have hD : va_D A [(h0, .inr (7, [.ref q1, .ref q2, .null, .null, .int 0])), (q1, .inl (ca 0, 60, .inl (fun _ => 0))), (q2, .inl (ca 0, 60, .inl (fun _ => 0)))] := hD
  refine lv_aload_n B.1 B.2.1 dX7_init_20 rfl (lv_at hl 0 rfl) ?_
  refine lv_bipush (v := 60) B.1 B.2.1 dX7_init_21 (by decide) ?_
  refine io_newa 0 (ty := .int) rfl rfl (io_of 115 (by decide +kernel) (by decide +kernel)) (fun _ _ => rfl) (by decide) B hK.1 hP hD hS hA (by decide) (N' := 60) (by decide) (by decide) (Nat.le_of_ble_eq_true rfl) (Nat.le_of_ble_eq_true rfl) dX7_init_23 (fun q3 H hP hD hS => ?_)
  have hP : va_P D vwCl [(h0, .inr (7, [.ref q1, .ref q2, .null, .null, .int 0])), (q1, .inl (ca 0, 60, .inl (fun _ => 0))), (q2, .inl (ca 0, 60, .inl (fun _ => 0))), (q3, .inl (ca 0, 60, .inl (fun _ => 0)))] H := hP
  have hD : va_D A [(h0, .inr (7, [.ref q1, .ref q2, .null, .null, .int 0])), (q1, .inl (ca 0, 60, .inl (fun _ => 0))), (q2, .inl (ca 0, 60, .inl (fun _ => 0))), (q3, .inl (ca 0, 60, .inl (fun _ => 0)))] := hD
  refine va_putF (D := D) (ci := 7) (v := .ref q3) (ty := (.array .int)) (C := RX7) (T := TX7) (N := 5) B.1 B.2.1 B.2.2.2.2 io_in7 tyX7 tyX7_ok nmX7 B.2.2.2.1 hK.1 hP hD hS 0 rfl rfl 2 (by decide) (B.2.2.2.2 _ (io_of 146 (by decide +kernel) (by decide +kernel))) (fun _ h9 => h9) rfl hin rfl (by decide +kernel) rfl rfl (Nat.le_of_ble_eq_true rfl) dX7_init_25 (fun H locs hP hD hS => ?_)
  have hP : va_P D vwCl [(h0, .inr (7, [.ref q1, .ref q2, .ref q3, .null, .int 0])), (q1, .inl (ca 0, 60, .inl (fun _ => 0))), (q2, .inl (ca 0, 60, .inl (fun _ => 0))), (q3, .inl (ca 0, 60, .inl (fun _ => 0)))] H := hP
  have hD : va_D A [(h0, .inr (7, [.ref q1, .ref q2, .ref q3, .null, .int 0])), (q1, .inl (ca 0, 60, .inl (fun _ => 0))), (q2, .inl (ca 0, 60, .inl (fun _ => 0))), (q3, .inl (ca 0, 60, .inl (fun _ => 0)))] := hD
  refine lv_aload_n B.1 B.2.1 dX7_init_28 rfl (lv_at hl 0 rfl) ?_
  refine lv_bipush (v := 60) B.1 B.2.1 dX7_init_29 (by decide) ?_
  refine io_newa 0 (ty := .int) rfl rfl (io_of 115 (by decide +kernel) (by decide +kernel)) (fun _ _ => rfl) (by decide) B hK.1 hP hD hS hA (by decide) (N' := 60) (by decide) (by decide) (Nat.le_of_ble_eq_true rfl) (Nat.le_of_ble_eq_true rfl) dX7_init_31 (fun q4 H hP hD hS => ?_)
  have hP : va_P D vwCl [(h0, .inr (7, [.ref q1, .ref q2, .ref q3, .null, .int 0])), (q1, .inl (ca 0, 60, .inl (fun _ => 0))), (q2, .inl (ca 0, 60, .inl (fun _ => 0))), (q3, .inl (ca 0, 60, .inl (fun _ => 0))), (q4, .inl (ca 0, 60, .inl (fun _ => 0)))] H := hP
  have hD : va_D A [(h0, .inr (7, [.ref q1, .ref q2, .ref q3, .null, .int 0])), (q1, .inl (ca 0, 60, .inl (fun _ => 0))), (q2, .inl (ca 0, 60, .inl (fun _ => 0))), (q3, .inl (ca 0, 60, .inl (fun _ => 0))), (q4, .inl (ca 0, 60, .inl (fun _ => 0)))] := hD
  refine va_putF (D := D) (ci := 7) (v := .ref q4) (ty := (.array .int)) (C := RX7) (T := TX7) (N := 5) B.1 B.2.1 B.2.2.2.2 io_in7 tyX7 tyX7_ok nmX7 B.2.2.2.1 hK.1 hP hD hS 0 rfl rfl 3 (by decide) (B.2.2.2.2 _ (io_of 147 (by decide +kernel) (by decide +kernel))) (fun _ h9 => h9) rfl hin rfl (by decide +kernel) rfl rfl (Nat.le_of_ble_eq_true rfl) dX7_init_33 (fun H locs hP hD hS => ?_)
  have hP : va_P D vwCl [(h0, .inr (7, [.ref q1, .ref q2, .ref q3, .ref q4, .int 0])), (q1, .inl (ca 0, 60, .inl (fun _ => 0))), (q2, .inl (ca 0, 60, .inl (fun _ => 0))), (q3, .inl (ca 0, 60, .inl (fun _ => 0))), (q4, .inl (ca 0, 60, .inl (fun _ => 0)))] H := hP
  have hD : va_D A [(h0, .inr (7, [.ref q1, .ref q2, .ref q3, .ref q4, .int 0])), (q1, .inl (ca 0, 60, .inl (fun _ => 0))), (q2, .inl (ca 0, 60, .inl (fun _ => 0))), (q3, .inl (ca 0, 60, .inl (fun _ => 0))), (q4, .inl (ca 0, 60, .inl (fun _ => 0)))] := hD
  refine lv_aload_n B.1 B.2.1 dX7_init_36 rfl (lv_at hl 0 rfl) ?_
  refine lv_iconst (v := 0) B.1 B.2.1 dX7_init_37 (by decide) ?_
  refine va_put (D := D) (ci := 7) (v := .int 0) (ty := .int) (C := RX7) (T := TX7) (N := 5) B.1 B.2.1 B.2.2.2.2 io_in7 tyX7 tyX7_ok nmX7 B.2.2.2.1 hK.1 hP hD hS 0 rfl rfl 4 (by decide) (B.2.2.2.2 _ (io_of 148 (by decide +kernel) (by decide +kernel))) (fun _ h9 => h9) rfl (by decide +kernel) rfl rfl (Nat.le_of_ble_eq_true rfl) dX7_init_38 (fun H locs hP hD hS => ?_)
  have hP : va_P D vwCl [(h0, .inr (7, [.ref q1, .ref q2, .ref q3, .ref q4, .int 0])), (q1, .inl (ca 0, 60, .inl (fun _ => 0))), (q2, .inl (ca 0, 60, .inl (fun _ => 0))), (q3, .inl (ca 0, 60, .inl (fun _ => 0))), (q4, .inl (ca 0, 60, .inl (fun _ => 0)))] H := hP
  have hD : va_D A [(h0, .inr (7, [.ref q1, .ref q2, .ref q3, .ref q4, .int 0])), (q1, .inl (ca 0, 60, .inl (fun _ => 0))), (q2, .inl (ca 0, 60, .inl (fun _ => 0))), (q3, .inl (ca 0, 60, .inl (fun _ => 0))), (q4, .inl (ca 0, 60, .inl (fun _ => 0)))] := hD
  have hP9 := hP.sub (ws' := [(h0, .inr (7, [.ref q1, .ref q2, .ref q3, .ref q4, .int 0])), (q1, .inl (ca 0, 60, .inl (fun _ => 0))), (q2, .inl (ca 0, 60, .inl (fun _ => 0))), (q3, .inl (ca 0, 60, .inl (fun _ => 0))), (q4, .inl (ca 0, 60, .inl (fun _ => 0)))]) [0, 1, 2, 3, 4] rfl
  have hD9 := hD.sub (ws' := [(h0, .inr (7, [.ref q1, .ref q2, .ref q3, .ref q4, .int 0])), (q1, .inl (ca 0, 60, .inl (fun _ => 0))), (q2, .inl (ca 0, 60, .inl (fun _ => 0))), (q3, .inl (ca 0, 60, .inl (fun _ => 0))), (q4, .inl (ca 0, 60, .inl (fun _ => 0)))]) [0, 1, 2, 3, 4] (by decide) rfl
  exact W.vret B.1 B.2.1 hr (fun t ht hW => ⟨⟨(), rfl, trivial, by show io_F_X7_init D ca A h0 t.heap; rw [ht]; exact ⟨q1, q2, q3, q4, hP9, hD9⟩⟩, hS.F ht⟩) hS.2.2 dX7_init_41
def io_F_X4_init (D : va_G) (ca : Nat → ClassId) (A : Nat → Prop) (h0 : Nat) (H : Heap) : Prop := ∃ q1 : Nat, va_P D vwCl [(h0, .inr (4, [.ref q1, .int 0])), (q1, .inl (ca 0, 300, .inl (fun _ => 0)))] H ∧ va_D A [(h0, .inr (4, [.ref q1, .int 0])), (q1, .inl (ca 0, 300, .inl (fun _ => 0)))]
set_option maxHeartbeats 8000000 in
set_option maxRecDepth 200000 in
theorem ct_X4_init (l : Launch) (D : va_G) (ca : Nat → ClassId) (h0 : Nat) (sz : Nat) : Met l yX4_init (.code yX4_init cX4_init 1 none :: io_tb) (io_rc 1 1 300) (va_Pc [.ref h0] (io_Pq D ca [(h0, .inr (4, [.null, .int 0]))] sz)) (va_Qv (fun _ : Unit => True) (fun _ t => io_F_X4_init D ca (va_A [(h0, .inr (4, [.null, .int 0]))] sz) h0 t.heap) (va_A [(h0, .inr (4, [.null, .int 0]))] sz)) 1 300 (va_A [(h0, .inr (4, [.null, .int 0]))] sz) := by
  refine Met.ofW (cc := cX4_init) (maxL := 1) (ret := none) (by decide) rfl ?_
  intro p e s m args below meth c s₁ Bd hml hv
  obtain ⟨rfl, hsz, hP, hK, hD0⟩ := hv
  have B : CallFix p m c cX4_init 1 s _ io_tb RX4 := ⟨Bd.exec, Bd.bytes, hml, findClass_of_methodNamed Bd.named, fun w hw => atoms_spec (ws := (.code yX4_init cX4_init 1 none :: io_tb)) Bd.pre w (List.mem_cons_of_mem _ hw)⟩
  have hr := Bd.returns
  have hlk := Bd.notSynchronized
  have hin : meth.name = "<init>" := (name_of_methodNamed Bd.named Bd.method).1
  subst hsz
  have hD := hD0.self (sz := s.heap.size)
  generalize hAe : va_A [(h0, .inr (4, [.null, .int 0]))] s.heap.size = A at hD ⊢
  have hA : ∀ q : Nat, s.heap.size ≤ q → A q := fun q h => by rw [← hAe]; exact Or.inr h
  have hS : va_S A s.heap s.heap [] := va_S.rf
  have hl := lv_entry ([.ref h0]) (n := 1) (Nat.le_of_ble_eq_true rfl)
  rw [lg_entry_eq]
  generalize (lg_sl ([.ref h0]) ++ List.replicate (1 - (lg_sl ([.ref h0])).length) Slot.unset).toArray = ls at hl ⊢
  have hl : lv_has ls 1 [(0, .ref h0)] := hl
  show W p l e (io_rc 1 1 300) s m _ below meth c s.heap [] 0 0 _ (F0 m 0 ls [])
  refine lv_aload_n B.1 B.2.1 dX4_init_0 rfl (lv_at hl 0 rfl) ?_
  refine W.objInit B.1 B.2.1 B.2.2.2.1 (B.2.2.2.2 _ (io_of 252 (by decide +kernel) (by decide +kernel))) (B.2.2.2.2 _ (io_of 85 (by decide +kernel) (by decide +kernel))) (B.2.2.2.2 _ (io_of 86 (by decide +kernel) (by decide +kernel))) rfl (by rw [B.2.2.1]; exact hl.1) rfl dX4_init_1 (Nat.le_of_ble_eq_true rfl) (Nat.le_of_ble_eq_true rfl) ?_
  refine W.eq (g2 := F0 m 4 ls []) rfl ?_
  refine lv_aload_n B.1 B.2.1 dX4_init_4 rfl (lv_at hl 0 rfl) ?_
  refine lv_sipush (v := 300) B.1 B.2.1 dX4_init_5 (by decide) ?_
  refine io_newa 0 (ty := .int) rfl rfl (io_of 115 (by decide +kernel) (by decide +kernel)) (fun _ _ => rfl) (by decide) B hK.1 hP hD hS hA (by decide) (N' := 300) (by decide) (by decide) (Nat.le_of_ble_eq_true rfl) (Nat.le_of_ble_eq_true rfl) dX4_init_8 (fun q1 H hP hD hS => ?_)
  have hP : va_P D vwCl [(h0, .inr (4, [.null, .int 0])), (q1, .inl (ca 0, 300, .inl (fun _ => 0)))] H := hP
  have hD : va_D A [(h0, .inr (4, [.null, .int 0])), (q1, .inl (ca 0, 300, .inl (fun _ => 0)))] := hD
  refine va_putF (D := D) (ci := 4) (v := .ref q1) (ty := (.array .int)) (C := RX4) (T := TX4) (N := 2) B.1 B.2.1 B.2.2.2.2 io_in4 tyX4 tyX4_ok nmX4 B.2.2.2.1 hK.1 hP hD hS 0 rfl rfl 0 (by decide) (B.2.2.2.2 _ (io_of 253 (by decide +kernel) (by decide +kernel))) (fun _ h9 => h9) rfl hin rfl (by decide +kernel) rfl rfl (Nat.le_of_ble_eq_true rfl) dX4_init_10 (fun H locs hP hD hS => ?_)
  have hP : va_P D vwCl [(h0, .inr (4, [.ref q1, .int 0])), (q1, .inl (ca 0, 300, .inl (fun _ => 0)))] H := hP
  have hD : va_D A [(h0, .inr (4, [.ref q1, .int 0])), (q1, .inl (ca 0, 300, .inl (fun _ => 0)))] := hD
  refine lv_aload_n B.1 B.2.1 dX4_init_13 rfl (lv_at hl 0 rfl) ?_
  refine lv_iconst (v := 0) B.1 B.2.1 dX4_init_14 (by decide) ?_
  refine va_put (D := D) (ci := 4) (v := .int 0) (ty := .int) (C := RX4) (T := TX4) (N := 2) B.1 B.2.1 B.2.2.2.2 io_in4 tyX4 tyX4_ok nmX4 B.2.2.2.1 hK.1 hP hD hS 0 rfl rfl 1 (by decide) (B.2.2.2.2 _ (io_of 254 (by decide +kernel) (by decide +kernel))) (fun _ h9 => h9) rfl (by decide +kernel) rfl rfl (Nat.le_of_ble_eq_true rfl) dX4_init_15 (fun H locs hP hD hS => ?_)
  have hP : va_P D vwCl [(h0, .inr (4, [.ref q1, .int 0])), (q1, .inl (ca 0, 300, .inl (fun _ => 0)))] H := hP
  have hD : va_D A [(h0, .inr (4, [.ref q1, .int 0])), (q1, .inl (ca 0, 300, .inl (fun _ => 0)))] := hD
  have hP9 := hP.sub (ws' := [(h0, .inr (4, [.ref q1, .int 0])), (q1, .inl (ca 0, 300, .inl (fun _ => 0)))]) [0, 1] rfl
  have hD9 := hD.sub (ws' := [(h0, .inr (4, [.ref q1, .int 0])), (q1, .inl (ca 0, 300, .inl (fun _ => 0)))]) [0, 1] (by decide) rfl
  exact W.vret B.1 B.2.1 hr (fun t ht hW => ⟨⟨(), rfl, trivial, by show io_F_X4_init D ca A h0 t.heap; rw [ht]; exact ⟨q1, hP9, hD9⟩⟩, hS.F ht⟩) hS.2.2 dX4_init_18
def io_F_X2_init (D : va_G) (ca : Nat → ClassId) (A : Nat → Prop) (h0 : Nat) (r1 : Nat) (H : Heap) : Prop := ∃ q1 : Nat, va_P D vwCl [(h0, .inr (2, [.ref r1, .ref q1, .int 0, .int 0, .int 0, .int 0, .int 0, .int 2, .int 0, .int 0, .int 0])), (q1, .inl (ca 0, 20, .inl (fun _ => 0)))] H ∧ va_D A [(h0, .inr (2, [.ref r1, .ref q1, .int 0, .int 0, .int 0, .int 0, .int 0, .int 2, .int 0, .int 0, .int 0])), (q1, .inl (ca 0, 20, .inl (fun _ => 0)))]
set_option maxHeartbeats 8000000 in
set_option maxRecDepth 200000 in
theorem ct_X2_init (l : Launch) (D : va_G) (ca : Nat → ClassId) (h0 : Nat) (r1 : Nat) (sz : Nat) : Met l yX2_init (.code yX2_init cX2_init 2 none :: io_tb) (io_rc 1 1 20) (va_Pc [.ref h0, .ref r1] (io_Pq D ca [(h0, .inr (2, [.null, .null, .int 0, .int 0, .int 0, .int 0, .int 0, .int 0, .int 0, .int 0, .int 0]))] sz)) (va_Qv (fun _ : Unit => True) (fun _ t => io_F_X2_init D ca (va_A [(h0, .inr (2, [.null, .null, .int 0, .int 0, .int 0, .int 0, .int 0, .int 0, .int 0, .int 0, .int 0]))] sz) h0 r1 t.heap) (va_A [(h0, .inr (2, [.null, .null, .int 0, .int 0, .int 0, .int 0, .int 0, .int 0, .int 0, .int 0, .int 0]))] sz)) 1 20 (va_A [(h0, .inr (2, [.null, .null, .int 0, .int 0, .int 0, .int 0, .int 0, .int 0, .int 0, .int 0, .int 0]))] sz) := by
  refine Met.ofW (cc := cX2_init) (maxL := 2) (ret := none) (by decide) rfl ?_
  intro p e s m args below meth c s₁ Bd hml hv
  obtain ⟨rfl, hsz, hP, hK, hD0⟩ := hv
  have B : CallFix p m c cX2_init 2 s _ io_tb RX2 := ⟨Bd.exec, Bd.bytes, hml, findClass_of_methodNamed Bd.named, fun w hw => atoms_spec (ws := (.code yX2_init cX2_init 2 none :: io_tb)) Bd.pre w (List.mem_cons_of_mem _ hw)⟩
  have hr := Bd.returns
  have hlk := Bd.notSynchronized
  have hin : meth.name = "<init>" := (name_of_methodNamed Bd.named Bd.method).1
  subst hsz
  have hD := hD0.self (sz := s.heap.size)
  generalize hAe : va_A [(h0, .inr (2, [.null, .null, .int 0, .int 0, .int 0, .int 0, .int 0, .int 0, .int 0, .int 0, .int 0]))] s.heap.size = A at hD ⊢
  have hA : ∀ q : Nat, s.heap.size ≤ q → A q := fun q h => by rw [← hAe]; exact Or.inr h
  have hS : va_S A s.heap s.heap [] := va_S.rf
  have hl := lv_entry ([.ref h0, .ref r1]) (n := 2) (Nat.le_of_ble_eq_true rfl)
  rw [lg_entry_eq]
  generalize (lg_sl ([.ref h0, .ref r1]) ++ List.replicate (2 - (lg_sl ([.ref h0, .ref r1])).length) Slot.unset).toArray = ls at hl ⊢
  have hl : lv_has ls 2 [(0, .ref h0), (1, .ref r1)] := hl
  show W p l e (io_rc 1 1 20) s m _ below meth c s.heap [] 0 0 _ (F0 m 0 ls [])
  refine lv_aload_n B.1 B.2.1 dX2_init_0 rfl (lv_at hl 0 rfl) ?_
  refine W.objInit B.1 B.2.1 B.2.2.2.1 (B.2.2.2.2 _ (io_of 172 (by decide +kernel) (by decide +kernel))) (B.2.2.2.2 _ (io_of 85 (by decide +kernel) (by decide +kernel))) (B.2.2.2.2 _ (io_of 86 (by decide +kernel) (by decide +kernel))) rfl (by rw [B.2.2.1]; exact hl.1) rfl dX2_init_1 (Nat.le_of_ble_eq_true rfl) (Nat.le_of_ble_eq_true rfl) ?_
  refine W.eq (g2 := F0 m 4 ls []) rfl ?_
  refine lv_aload_n B.1 B.2.1 dX2_init_4 rfl (lv_at hl 0 rfl) ?_
  refine lv_bipush (v := 20) B.1 B.2.1 dX2_init_5 (by decide) ?_
  refine io_newa 0 (ty := .int) rfl rfl (io_of 115 (by decide +kernel) (by decide +kernel)) (fun _ _ => rfl) (by decide) B hK.1 hP hD hS hA (by decide) (N' := 20) (by decide) (by decide) (Nat.le_of_ble_eq_true rfl) (Nat.le_of_ble_eq_true rfl) dX2_init_7 (fun q1 H hP hD hS => ?_)
  have hP : va_P D vwCl [(h0, .inr (2, [.null, .null, .int 0, .int 0, .int 0, .int 0, .int 0, .int 0, .int 0, .int 0, .int 0])), (q1, .inl (ca 0, 20, .inl (fun _ => 0)))] H := hP
  have hD : va_D A [(h0, .inr (2, [.null, .null, .int 0, .int 0, .int 0, .int 0, .int 0, .int 0, .int 0, .int 0, .int 0])), (q1, .inl (ca 0, 20, .inl (fun _ => 0)))] := hD
  refine va_putF (D := D) (ci := 2) (v := .ref q1) (ty := (.array .int)) (C := RX2) (T := TX2) (N := 11) B.1 B.2.1 B.2.2.2.2 io_in2 tyX2 tyX2_ok nmX2 B.2.2.2.1 hK.1 hP hD hS 0 rfl rfl 1 (by decide) (B.2.2.2.2 _ (io_of 174 (by decide +kernel) (by decide +kernel))) (fun _ h9 => h9) rfl hin rfl (by decide +kernel) rfl rfl (Nat.le_of_ble_eq_true rfl) dX2_init_9 (fun H locs hP hD hS => ?_)
  have hP : va_P D vwCl [(h0, .inr (2, [.null, .ref q1, .int 0, .int 0, .int 0, .int 0, .int 0, .int 0, .int 0, .int 0, .int 0])), (q1, .inl (ca 0, 20, .inl (fun _ => 0)))] H := hP
  have hD : va_D A [(h0, .inr (2, [.null, .ref q1, .int 0, .int 0, .int 0, .int 0, .int 0, .int 0, .int 0, .int 0, .int 0])), (q1, .inl (ca 0, 20, .inl (fun _ => 0)))] := hD
  refine lv_aload_n B.1 B.2.1 dX2_init_12 rfl (lv_at hl 0 rfl) ?_
  refine lv_iconst (v := 0) B.1 B.2.1 dX2_init_13 (by decide) ?_
  refine va_put (D := D) (ci := 2) (v := .int 0) (ty := .int) (C := RX2) (T := TX2) (N := 11) B.1 B.2.1 B.2.2.2.2 io_in2 tyX2 tyX2_ok nmX2 B.2.2.2.1 hK.1 hP hD hS 0 rfl rfl 2 (by decide) (B.2.2.2.2 _ (io_of 175 (by decide +kernel) (by decide +kernel))) (fun _ h9 => h9) rfl (by decide +kernel) rfl rfl (Nat.le_of_ble_eq_true rfl) dX2_init_14 (fun H locs hP hD hS => ?_)
  have hP : va_P D vwCl [(h0, .inr (2, [.null, .ref q1, .int 0, .int 0, .int 0, .int 0, .int 0, .int 0, .int 0, .int 0, .int 0])), (q1, .inl (ca 0, 20, .inl (fun _ => 0)))] H := hP
  have hD : va_D A [(h0, .inr (2, [.null, .ref q1, .int 0, .int 0, .int 0, .int 0, .int 0, .int 0, .int 0, .int 0, .int 0])), (q1, .inl (ca 0, 20, .inl (fun _ => 0)))] := hD
  refine lv_aload_n B.1 B.2.1 dX2_init_17 rfl (lv_at hl 0 rfl) ?_
  refine lv_iconst (v := 0) B.1 B.2.1 dX2_init_18 (by decide) ?_
  refine va_put (D := D) (ci := 2) (v := .int 0) (ty := .int) (C := RX2) (T := TX2) (N := 11) B.1 B.2.1 B.2.2.2.2 io_in2 tyX2 tyX2_ok nmX2 B.2.2.2.1 hK.1 hP hD hS 0 rfl rfl 3 (by decide) (B.2.2.2.2 _ (io_of 176 (by decide +kernel) (by decide +kernel))) (fun _ h9 => h9) rfl (by decide +kernel) rfl rfl (Nat.le_of_ble_eq_true rfl) dX2_init_19 (fun H locs hP hD hS => ?_)
  have hP : va_P D vwCl [(h0, .inr (2, [.null, .ref q1, .int 0, .int 0, .int 0, .int 0, .int 0, .int 0, .int 0, .int 0, .int 0])), (q1, .inl (ca 0, 20, .inl (fun _ => 0)))] H := hP
  have hD : va_D A [(h0, .inr (2, [.null, .ref q1, .int 0, .int 0, .int 0, .int 0, .int 0, .int 0, .int 0, .int 0, .int 0])), (q1, .inl (ca 0, 20, .inl (fun _ => 0)))] := hD
  refine lv_aload_n B.1 B.2.1 dX2_init_22 rfl (lv_at hl 0 rfl) ?_
  refine lv_iconst (v := 0) B.1 B.2.1 dX2_init_23 (by decide) ?_
  refine va_put (D := D) (ci := 2) (v := .int 0) (ty := .int) (C := RX2) (T := TX2) (N := 11) B.1 B.2.1 B.2.2.2.2 io_in2 tyX2 tyX2_ok nmX2 B.2.2.2.1 hK.1 hP hD hS 0 rfl rfl 4 (by decide) (B.2.2.2.2 _ (io_of 177 (by decide +kernel) (by decide +kernel))) (fun _ h9 => h9) rfl (by decide +kernel) rfl rfl (Nat.le_of_ble_eq_true rfl) dX2_init_24 (fun H locs hP hD hS => ?_)
  have hP : va_P D vwCl [(h0, .inr (2, [.null, .ref q1, .int 0, .int 0, .int 0, .int 0, .int 0, .int 0, .int 0, .int 0, .int 0])), (q1, .inl (ca 0, 20, .inl (fun _ => 0)))] H := hP
  have hD : va_D A [(h0, .inr (2, [.null, .ref q1, .int 0, .int 0, .int 0, .int 0, .int 0, .int 0, .int 0, .int 0, .int 0])), (q1, .inl (ca 0, 20, .inl (fun _ => 0)))] := hD
  refine lv_aload_n B.1 B.2.1 dX2_init_27 rfl (lv_at hl 0 rfl) ?_
  refine lv_iconst (v := 0) B.1 B.2.1 dX2_init_28 (by decide) ?_
  refine va_put (D := D) (ci := 2) (v := .int 0) (ty := .int) (C := RX2) (T := TX2) (N := 11) B.1 B.2.1 B.2.2.2.2 io_in2 tyX2 tyX2_ok nmX2 B.2.2.2.1 hK.1 hP hD hS 0 rfl rfl 5 (by decide) (B.2.2.2.2 _ (io_of 178 (by decide +kernel) (by decide +kernel))) (fun _ h9 => h9) rfl (by decide +kernel) rfl rfl (Nat.le_of_ble_eq_true rfl) dX2_init_29 (fun H locs hP hD hS => ?_)
  have hP : va_P D vwCl [(h0, .inr (2, [.null, .ref q1, .int 0, .int 0, .int 0, .int 0, .int 0, .int 0, .int 0, .int 0, .int 0])), (q1, .inl (ca 0, 20, .inl (fun _ => 0)))] H := hP
  have hD : va_D A [(h0, .inr (2, [.null, .ref q1, .int 0, .int 0, .int 0, .int 0, .int 0, .int 0, .int 0, .int 0, .int 0])), (q1, .inl (ca 0, 20, .inl (fun _ => 0)))] := hD
  refine lv_aload_n B.1 B.2.1 dX2_init_32 rfl (lv_at hl 0 rfl) ?_
  refine lv_iconst (v := 0) B.1 B.2.1 dX2_init_33 (by decide) ?_
  refine va_put (D := D) (ci := 2) (v := .int 0) (ty := .int) (C := RX2) (T := TX2) (N := 11) B.1 B.2.1 B.2.2.2.2 io_in2 tyX2 tyX2_ok nmX2 B.2.2.2.1 hK.1 hP hD hS 0 rfl rfl 6 (by decide) (B.2.2.2.2 _ (io_of 179 (by decide +kernel) (by decide +kernel))) (fun _ h9 => h9) rfl (by decide +kernel) rfl rfl (Nat.le_of_ble_eq_true rfl) dX2_init_34 (fun H locs hP hD hS => ?_)
  have hP : va_P D vwCl [(h0, .inr (2, [.null, .ref q1, .int 0, .int 0, .int 0, .int 0, .int 0, .int 0, .int 0, .int 0, .int 0])), (q1, .inl (ca 0, 20, .inl (fun _ => 0)))] H := hP
  have hD : va_D A [(h0, .inr (2, [.null, .ref q1, .int 0, .int 0, .int 0, .int 0, .int 0, .int 0, .int 0, .int 0, .int 0])), (q1, .inl (ca 0, 20, .inl (fun _ => 0)))] := hD
  refine lv_aload_n B.1 B.2.1 dX2_init_37 rfl (lv_at hl 0 rfl) ?_
  refine lv_iconst (v := 2) B.1 B.2.1 dX2_init_38 (by decide) ?_
  refine va_put (D := D) (ci := 2) (v := .int 2) (ty := .int) (C := RX2) (T := TX2) (N := 11) B.1 B.2.1 B.2.2.2.2 io_in2 tyX2 tyX2_ok nmX2 B.2.2.2.1 hK.1 hP hD hS 0 rfl rfl 7 (by decide) (B.2.2.2.2 _ (io_of 180 (by decide +kernel) (by decide +kernel))) (fun _ h9 => h9) rfl (by decide +kernel) rfl rfl (Nat.le_of_ble_eq_true rfl) dX2_init_39 (fun H locs hP hD hS => ?_)
  have hP : va_P D vwCl [(h0, .inr (2, [.null, .ref q1, .int 0, .int 0, .int 0, .int 0, .int 0, .int 2, .int 0, .int 0, .int 0])), (q1, .inl (ca 0, 20, .inl (fun _ => 0)))] H := hP
  have hD : va_D A [(h0, .inr (2, [.null, .ref q1, .int 0, .int 0, .int 0, .int 0, .int 0, .int 2, .int 0, .int 0, .int 0])), (q1, .inl (ca 0, 20, .inl (fun _ => 0)))] := hD
  refine lv_aload_n B.1 B.2.1 dX2_init_42 rfl (lv_at hl 0 rfl) ?_
  refine lv_iconst (v := 0) B.1 B.2.1 dX2_init_43 (by decide) ?_
  refine va_put (D := D) (ci := 2) (v := .int 0) (ty := .int) (C := RX2) (T := TX2) (N := 11) B.1 B.2.1 B.2.2.2.2 io_in2 tyX2 tyX2_ok nmX2 B.2.2.2.1 hK.1 hP hD hS 0 rfl rfl 8 (by decide) (B.2.2.2.2 _ (io_of 181 (by decide +kernel) (by decide +kernel))) (fun _ h9 => h9) rfl (by decide +kernel) rfl rfl (Nat.le_of_ble_eq_true rfl) dX2_init_44 (fun H locs hP hD hS => ?_)
  have hP : va_P D vwCl [(h0, .inr (2, [.null, .ref q1, .int 0, .int 0, .int 0, .int 0, .int 0, .int 2, .int 0, .int 0, .int 0])), (q1, .inl (ca 0, 20, .inl (fun _ => 0)))] H := hP
  have hD : va_D A [(h0, .inr (2, [.null, .ref q1, .int 0, .int 0, .int 0, .int 0, .int 0, .int 2, .int 0, .int 0, .int 0])), (q1, .inl (ca 0, 20, .inl (fun _ => 0)))] := hD
  refine lv_aload_n B.1 B.2.1 dX2_init_47 rfl (lv_at hl 0 rfl) ?_
  refine lv_iconst (v := 0) B.1 B.2.1 dX2_init_48 (by decide) ?_
  refine va_put (D := D) (ci := 2) (v := .int 0) (ty := .int) (C := RX2) (T := TX2) (N := 11) B.1 B.2.1 B.2.2.2.2 io_in2 tyX2 tyX2_ok nmX2 B.2.2.2.1 hK.1 hP hD hS 0 rfl rfl 9 (by decide) (B.2.2.2.2 _ (io_of 182 (by decide +kernel) (by decide +kernel))) (fun _ h9 => h9) rfl (by decide +kernel) rfl rfl (Nat.le_of_ble_eq_true rfl) dX2_init_49 (fun H locs hP hD hS => ?_)
  have hP : va_P D vwCl [(h0, .inr (2, [.null, .ref q1, .int 0, .int 0, .int 0, .int 0, .int 0, .int 2, .int 0, .int 0, .int 0])), (q1, .inl (ca 0, 20, .inl (fun _ => 0)))] H := hP
  have hD : va_D A [(h0, .inr (2, [.null, .ref q1, .int 0, .int 0, .int 0, .int 0, .int 0, .int 2, .int 0, .int 0, .int 0])), (q1, .inl (ca 0, 20, .inl (fun _ => 0)))] := hD
  refine lv_aload_n B.1 B.2.1 dX2_init_52 rfl (lv_at hl 0 rfl) ?_
  refine lv_iconst (v := 0) B.1 B.2.1 dX2_init_53 (by decide) ?_
  refine va_put (D := D) (ci := 2) (v := .int 0) (ty := .int) (C := RX2) (T := TX2) (N := 11) B.1 B.2.1 B.2.2.2.2 io_in2 tyX2 tyX2_ok nmX2 B.2.2.2.1 hK.1 hP hD hS 0 rfl rfl 10 (by decide) (B.2.2.2.2 _ (io_of 183 (by decide +kernel) (by decide +kernel))) (fun _ h9 => h9) rfl (by decide +kernel) rfl rfl (Nat.le_of_ble_eq_true rfl) dX2_init_54 (fun H locs hP hD hS => ?_)
  have hP : va_P D vwCl [(h0, .inr (2, [.null, .ref q1, .int 0, .int 0, .int 0, .int 0, .int 0, .int 2, .int 0, .int 0, .int 0])), (q1, .inl (ca 0, 20, .inl (fun _ => 0)))] H := hP
  have hD : va_D A [(h0, .inr (2, [.null, .ref q1, .int 0, .int 0, .int 0, .int 0, .int 0, .int 2, .int 0, .int 0, .int 0])), (q1, .inl (ca 0, 20, .inl (fun _ => 0)))] := hD
  refine lv_aload_n B.1 B.2.1 dX2_init_57 rfl (lv_at hl 0 rfl) ?_
  refine lv_aload_n B.1 B.2.1 dX2_init_58 rfl (lv_at hl 1 rfl) ?_
  refine va_putF (D := D) (ci := 2) (v := .ref r1) (ty := (.object "InputOutput$Disk")) (C := RX2) (T := TX2) (N := 11) B.1 B.2.1 B.2.2.2.2 io_in2 tyX2 tyX2_ok nmX2 B.2.2.2.1 hK.1 hP hD hS 0 rfl rfl 0 (by decide) (B.2.2.2.2 _ (io_of 173 (by decide +kernel) (by decide +kernel))) (fun _ h9 => h9) rfl hin rfl (by decide +kernel) rfl rfl (Nat.le_of_ble_eq_true rfl) dX2_init_59 (fun H locs hP hD hS => ?_)
  have hP : va_P D vwCl [(h0, .inr (2, [.ref r1, .ref q1, .int 0, .int 0, .int 0, .int 0, .int 0, .int 2, .int 0, .int 0, .int 0])), (q1, .inl (ca 0, 20, .inl (fun _ => 0)))] H := hP
  have hD : va_D A [(h0, .inr (2, [.ref r1, .ref q1, .int 0, .int 0, .int 0, .int 0, .int 0, .int 2, .int 0, .int 0, .int 0])), (q1, .inl (ca 0, 20, .inl (fun _ => 0)))] := hD
  have hP9 := hP.sub (ws' := [(h0, .inr (2, [.ref r1, .ref q1, .int 0, .int 0, .int 0, .int 0, .int 0, .int 2, .int 0, .int 0, .int 0])), (q1, .inl (ca 0, 20, .inl (fun _ => 0)))]) [0, 1] rfl
  have hD9 := hD.sub (ws' := [(h0, .inr (2, [.ref r1, .ref q1, .int 0, .int 0, .int 0, .int 0, .int 0, .int 2, .int 0, .int 0, .int 0])), (q1, .inl (ca 0, 20, .inl (fun _ => 0)))]) [0, 1] (by decide) rfl
  exact W.vret B.1 B.2.1 hr (fun t ht hW => ⟨⟨(), rfl, trivial, by show io_F_X2_init D ca A h0 r1 t.heap; rw [ht]; exact ⟨q1, hP9, hD9⟩⟩, hS.F ht⟩) hS.2.2 dX2_init_62
def io_F_X5_init (D : va_G) (ca : Nat → ClassId) (A : Nat → Prop) (h0 : Nat) (H : Heap) : Prop := ∃ q1 : Nat, va_P D vwCl [(h0, .inr (5, [.ref q1, .null, .int 0])), (q1, .inl (ca 0, 40, .inl (fun _ => 0)))] H ∧ va_D A [(h0, .inr (5, [.ref q1, .null, .int 0])), (q1, .inl (ca 0, 40, .inl (fun _ => 0)))]
set_option maxHeartbeats 8000000 in
set_option maxRecDepth 200000 in
theorem ct_X5_init (l : Launch) (D : va_G) (ca : Nat → ClassId) (h0 : Nat) (sz : Nat) : Met l yX5_init (.code yX5_init cX5_init 1 none :: io_tb) (io_rc 1 1 40) (va_Pc [.ref h0] (io_Pq D ca [(h0, .inr (5, [.null, .null, .int 0]))] sz)) (va_Qv (fun _ : Unit => True) (fun _ t => io_F_X5_init D ca (va_A [(h0, .inr (5, [.null, .null, .int 0]))] sz) h0 t.heap) (va_A [(h0, .inr (5, [.null, .null, .int 0]))] sz)) 1 40 (va_A [(h0, .inr (5, [.null, .null, .int 0]))] sz) := by
  refine Met.ofW (cc := cX5_init) (maxL := 1) (ret := none) (by decide) rfl ?_
  intro p e s m args below meth c s₁ Bd hml hv
  obtain ⟨rfl, hsz, hP, hK, hD0⟩ := hv
  have B : CallFix p m c cX5_init 1 s _ io_tb RX5 := ⟨Bd.exec, Bd.bytes, hml, findClass_of_methodNamed Bd.named, fun w hw => atoms_spec (ws := (.code yX5_init cX5_init 1 none :: io_tb)) Bd.pre w (List.mem_cons_of_mem _ hw)⟩
  have hr := Bd.returns
  have hlk := Bd.notSynchronized
  have hin : meth.name = "<init>" := (name_of_methodNamed Bd.named Bd.method).1
  subst hsz
  have hD := hD0.self (sz := s.heap.size)
  generalize hAe : va_A [(h0, .inr (5, [.null, .null, .int 0]))] s.heap.size = A at hD ⊢
  have hA : ∀ q : Nat, s.heap.size ≤ q → A q := fun q h => by rw [← hAe]; exact Or.inr h
  have hS : va_S A s.heap s.heap [] := va_S.rf
  have hl := lv_entry ([.ref h0]) (n := 1) (Nat.le_of_ble_eq_true rfl)
  rw [lg_entry_eq]
  generalize (lg_sl ([.ref h0]) ++ List.replicate (1 - (lg_sl ([.ref h0])).length) Slot.unset).toArray = ls at hl ⊢
  have hl : lv_has ls 1 [(0, .ref h0)] := hl
  show W p l e (io_rc 1 1 40) s m _ below meth c s.heap [] 0 0 _ (F0 m 0 ls [])
  refine lv_aload_n B.1 B.2.1 dX5_init_0 rfl (lv_at hl 0 rfl) ?_
  refine W.objInit B.1 B.2.1 B.2.2.2.1 (B.2.2.2.2 _ (io_of 229 (by decide +kernel) (by decide +kernel))) (B.2.2.2.2 _ (io_of 85 (by decide +kernel) (by decide +kernel))) (B.2.2.2.2 _ (io_of 86 (by decide +kernel) (by decide +kernel))) rfl (by rw [B.2.2.1]; exact hl.1) rfl dX5_init_1 (Nat.le_of_ble_eq_true rfl) (Nat.le_of_ble_eq_true rfl) ?_
  refine W.eq (g2 := F0 m 4 ls []) rfl ?_
  refine lv_aload_n B.1 B.2.1 dX5_init_4 rfl (lv_at hl 0 rfl) ?_
  refine lv_bipush (v := 40) B.1 B.2.1 dX5_init_5 (by decide) ?_
  refine io_newa 0 (ty := .int) rfl rfl (io_of 115 (by decide +kernel) (by decide +kernel)) (fun _ _ => rfl) (by decide) B hK.1 hP hD hS hA (by decide) (N' := 40) (by decide) (by decide) (Nat.le_of_ble_eq_true rfl) (Nat.le_of_ble_eq_true rfl) dX5_init_7 (fun q1 H hP hD hS => ?_)
  have hP : va_P D vwCl [(h0, .inr (5, [.null, .null, .int 0])), (q1, .inl (ca 0, 40, .inl (fun _ => 0)))] H := hP
  have hD : va_D A [(h0, .inr (5, [.null, .null, .int 0])), (q1, .inl (ca 0, 40, .inl (fun _ => 0)))] := hD
  refine va_putF (D := D) (ci := 5) (v := .ref q1) (ty := (.array .int)) (C := RX5) (T := TX5) (N := 3) B.1 B.2.1 B.2.2.2.2 io_in5 tyX5 tyX5_ok nmX5 B.2.2.2.1 hK.1 hP hD hS 0 rfl rfl 0 (by decide) (B.2.2.2.2 _ (io_of 230 (by decide +kernel) (by decide +kernel))) (fun _ h9 => h9) rfl hin rfl (by decide +kernel) rfl rfl (Nat.le_of_ble_eq_true rfl) dX5_init_9 (fun H locs hP hD hS => ?_)
  have hP : va_P D vwCl [(h0, .inr (5, [.ref q1, .null, .int 0])), (q1, .inl (ca 0, 40, .inl (fun _ => 0)))] H := hP
  have hD : va_D A [(h0, .inr (5, [.ref q1, .null, .int 0])), (q1, .inl (ca 0, 40, .inl (fun _ => 0)))] := hD
  refine lv_aload_n B.1 B.2.1 dX5_init_12 rfl (lv_at hl 0 rfl) ?_
  refine lv_null B.1 B.2.1 dX5_init_13 ?_
  refine va_put (D := D) (ci := 5) (v := .null) (ty := (.object "InputOutput$Handle")) (C := RX5) (T := TX5) (N := 3) B.1 B.2.1 B.2.2.2.2 io_in5 tyX5 tyX5_ok nmX5 B.2.2.2.1 hK.1 hP hD hS 0 rfl rfl 1 (by decide) (B.2.2.2.2 _ (io_of 231 (by decide +kernel) (by decide +kernel))) (fun _ h9 => h9) rfl (by decide +kernel) rfl rfl (Nat.le_of_ble_eq_true rfl) dX5_init_14 (fun H locs hP hD hS => ?_)
  have hP : va_P D vwCl [(h0, .inr (5, [.ref q1, .null, .int 0])), (q1, .inl (ca 0, 40, .inl (fun _ => 0)))] H := hP
  have hD : va_D A [(h0, .inr (5, [.ref q1, .null, .int 0])), (q1, .inl (ca 0, 40, .inl (fun _ => 0)))] := hD
  refine lv_aload_n B.1 B.2.1 dX5_init_17 rfl (lv_at hl 0 rfl) ?_
  refine lv_iconst (v := 0) B.1 B.2.1 dX5_init_18 (by decide) ?_
  refine va_put (D := D) (ci := 5) (v := .int 0) (ty := .int) (C := RX5) (T := TX5) (N := 3) B.1 B.2.1 B.2.2.2.2 io_in5 tyX5 tyX5_ok nmX5 B.2.2.2.1 hK.1 hP hD hS 0 rfl rfl 2 (by decide) (B.2.2.2.2 _ (io_of 232 (by decide +kernel) (by decide +kernel))) (fun _ h9 => h9) rfl (by decide +kernel) rfl rfl (Nat.le_of_ble_eq_true rfl) dX5_init_19 (fun H locs hP hD hS => ?_)
  have hP : va_P D vwCl [(h0, .inr (5, [.ref q1, .null, .int 0])), (q1, .inl (ca 0, 40, .inl (fun _ => 0)))] H := hP
  have hD : va_D A [(h0, .inr (5, [.ref q1, .null, .int 0])), (q1, .inl (ca 0, 40, .inl (fun _ => 0)))] := hD
  have hP9 := hP.sub (ws' := [(h0, .inr (5, [.ref q1, .null, .int 0])), (q1, .inl (ca 0, 40, .inl (fun _ => 0)))]) [0, 1] rfl
  have hD9 := hD.sub (ws' := [(h0, .inr (5, [.ref q1, .null, .int 0])), (q1, .inl (ca 0, 40, .inl (fun _ => 0)))]) [0, 1] (by decide) rfl
  exact W.vret B.1 B.2.1 hr (fun t ht hW => ⟨⟨(), rfl, trivial, by show io_F_X5_init D ca A h0 t.heap; rw [ht]; exact ⟨q1, hP9, hD9⟩⟩, hS.F ht⟩) hS.2.2 dX5_init_22
def io_F_X8_init (D : va_G) (ca : Nat → ClassId) (A : Nat → Prop) (h0 : Nat) (r1 : Nat) (r2 : Nat) (r3 : Nat) (r4 : Nat) (r5 : Nat) (H : Heap) : Prop := ∃ q1 q2 : Nat, va_P D vwCl [(h0, .inr (8, [.ref r1, .ref r2, .ref r3, .ref r4, .ref r5, .ref q1, .ref q2, .int 0, .int 0, .int (-1), .int 0])), (q1, .inl (ca 0, 6, .inl (fun _ => 0))), (q2, .inl (ca 0, 6, .inl (fun _ => 0)))] H ∧ va_D A [(h0, .inr (8, [.ref r1, .ref r2, .ref r3, .ref r4, .ref r5, .ref q1, .ref q2, .int 0, .int 0, .int (-1), .int 0])), (q1, .inl (ca 0, 6, .inl (fun _ => 0))), (q2, .inl (ca 0, 6, .inl (fun _ => 0)))]
set_option maxHeartbeats 8000000 in
set_option maxRecDepth 200000 in
theorem ct_X8_init (l : Launch) (D : va_G) (ca : Nat → ClassId) (h0 : Nat) (r1 : Nat) (r2 : Nat) (r3 : Nat) (r4 : Nat) (r5 : Nat) (sz : Nat) : Met l yX8_init (.code yX8_init cX8_init 6 none :: io_tb) (io_rc 1 2 12) (va_Pc [.ref h0, .ref r1, .ref r2, .ref r3, .ref r4, .ref r5] (io_Pq D ca [(h0, .inr (8, [.null, .null, .null, .null, .null, .null, .null, .int 0, .int 0, .int 0, .int 0]))] sz)) (va_Qv (fun _ : Unit => True) (fun _ t => io_F_X8_init D ca (va_A [(h0, .inr (8, [.null, .null, .null, .null, .null, .null, .null, .int 0, .int 0, .int 0, .int 0]))] sz) h0 r1 r2 r3 r4 r5 t.heap) (va_A [(h0, .inr (8, [.null, .null, .null, .null, .null, .null, .null, .int 0, .int 0, .int 0, .int 0]))] sz)) 2 12 (va_A [(h0, .inr (8, [.null, .null, .null, .null, .null, .null, .null, .int 0, .int 0, .int 0, .int 0]))] sz) := by
  refine Met.ofW (cc := cX8_init) (maxL := 6) (ret := none) (by decide) rfl ?_
  intro p e s m args below meth c s₁ Bd hml hv
  obtain ⟨rfl, hsz, hP, hK, hD0⟩ := hv
  have B : CallFix p m c cX8_init 6 s _ io_tb RX8 := ⟨Bd.exec, Bd.bytes, hml, findClass_of_methodNamed Bd.named, fun w hw => atoms_spec (ws := (.code yX8_init cX8_init 6 none :: io_tb)) Bd.pre w (List.mem_cons_of_mem _ hw)⟩
  have hr := Bd.returns
  have hlk := Bd.notSynchronized
  have hin : meth.name = "<init>" := (name_of_methodNamed Bd.named Bd.method).1
  subst hsz
  have hD := hD0.self (sz := s.heap.size)
  generalize hAe : va_A [(h0, .inr (8, [.null, .null, .null, .null, .null, .null, .null, .int 0, .int 0, .int 0, .int 0]))] s.heap.size = A at hD ⊢
  have hA : ∀ q : Nat, s.heap.size ≤ q → A q := fun q h => by rw [← hAe]; exact Or.inr h
  have hS : va_S A s.heap s.heap [] := va_S.rf
  have hl := lv_entry ([.ref h0, .ref r1, .ref r2, .ref r3, .ref r4, .ref r5]) (n := 6) (Nat.le_of_ble_eq_true rfl)
  rw [lg_entry_eq]
  generalize (lg_sl ([.ref h0, .ref r1, .ref r2, .ref r3, .ref r4, .ref r5]) ++ List.replicate (6 - (lg_sl ([.ref h0, .ref r1, .ref r2, .ref r3, .ref r4, .ref r5])).length) Slot.unset).toArray = ls at hl ⊢
  have hl : lv_has ls 6 [(0, .ref h0), (1, .ref r1), (2, .ref r2), (3, .ref r3), (4, .ref r4), (5, .ref r5)] := hl
  show W p l e (io_rc 1 2 12) s m _ below meth c s.heap [] 0 0 _ (F0 m 0 ls [])
  refine lv_aload_n B.1 B.2.1 dX8_init_0 rfl (lv_at hl 0 rfl) ?_
  refine W.objInit B.1 B.2.1 B.2.2.2.1 (B.2.2.2.2 _ (io_of 265 (by decide +kernel) (by decide +kernel))) (B.2.2.2.2 _ (io_of 85 (by decide +kernel) (by decide +kernel))) (B.2.2.2.2 _ (io_of 86 (by decide +kernel) (by decide +kernel))) rfl (by rw [B.2.2.1]; exact hl.1) rfl dX8_init_1 (Nat.le_of_ble_eq_true rfl) (Nat.le_of_ble_eq_true rfl) ?_
  refine W.eq (g2 := F0 m 4 ls []) rfl ?_
  refine lv_aload_n B.1 B.2.1 dX8_init_4 rfl (lv_at hl 0 rfl) ?_
  refine lv_bipush (v := 6) B.1 B.2.1 dX8_init_5 (by decide) ?_
  refine io_newa 0 (ty := .int) rfl rfl (io_of 115 (by decide +kernel) (by decide +kernel)) (fun _ _ => rfl) (by decide) B hK.1 hP hD hS hA (by decide) (N' := 6) (by decide) (by decide) (Nat.le_of_ble_eq_true rfl) (Nat.le_of_ble_eq_true rfl) dX8_init_7 (fun q1 H hP hD hS => ?_)
  have hP : va_P D vwCl [(h0, .inr (8, [.null, .null, .null, .null, .null, .null, .null, .int 0, .int 0, .int 0, .int 0])), (q1, .inl (ca 0, 6, .inl (fun _ => 0)))] H := hP
  have hD : va_D A [(h0, .inr (8, [.null, .null, .null, .null, .null, .null, .null, .int 0, .int 0, .int 0, .int 0])), (q1, .inl (ca 0, 6, .inl (fun _ => 0)))] := hD
  refine va_putF (D := D) (ci := 8) (v := .ref q1) (ty := (.array .int)) (C := RX8) (T := TX8) (N := 11) B.1 B.2.1 B.2.2.2.2 io_in8 tyX8 tyX8_ok nmX8 B.2.2.2.1 hK.1 hP hD hS 0 rfl rfl 5 (by decide) (B.2.2.2.2 _ (io_of 271 (by decide +kernel) (by decide +kernel))) (fun _ h9 => h9) rfl hin rfl (by decide +kernel) rfl rfl (Nat.le_of_ble_eq_true rfl) dX8_init_9 (fun H locs hP hD hS => ?_)
  have hP : va_P D vwCl [(h0, .inr (8, [.null, .null, .null, .null, .null, .ref q1, .null, .int 0, .int 0, .int 0, .int 0])), (q1, .inl (ca 0, 6, .inl (fun _ => 0)))] H := hP
  have hD : va_D A [(h0, .inr (8, [.null, .null, .null, .null, .null, .ref q1, .null, .int 0, .int 0, .int 0, .int 0])), (q1, .inl (ca 0, 6, .inl (fun _ => 0)))] := hD
  refine lv_aload_n B.1 B.2.1 dX8_init_12 rfl (lv_at hl 0 rfl) ?_
  refine lv_bipush (v := 6) B.1 B.2.1 dX8_init_13 (by decide) ?_
  refine io_newa 0 (ty := .int) rfl rfl (io_of 115 (by decide +kernel) (by decide +kernel)) (fun _ _ => rfl) (by decide) B hK.1 hP hD hS hA (by decide) (N' := 6) (by decide) (by decide) (Nat.le_of_ble_eq_true rfl) (Nat.le_of_ble_eq_true rfl) dX8_init_15 (fun q2 H hP hD hS => ?_)
  have hP : va_P D vwCl [(h0, .inr (8, [.null, .null, .null, .null, .null, .ref q1, .null, .int 0, .int 0, .int 0, .int 0])), (q1, .inl (ca 0, 6, .inl (fun _ => 0))), (q2, .inl (ca 0, 6, .inl (fun _ => 0)))] H := hP
  have hD : va_D A [(h0, .inr (8, [.null, .null, .null, .null, .null, .ref q1, .null, .int 0, .int 0, .int 0, .int 0])), (q1, .inl (ca 0, 6, .inl (fun _ => 0))), (q2, .inl (ca 0, 6, .inl (fun _ => 0)))] := hD
  refine va_putF (D := D) (ci := 8) (v := .ref q2) (ty := (.array .int)) (C := RX8) (T := TX8) (N := 11) B.1 B.2.1 B.2.2.2.2 io_in8 tyX8 tyX8_ok nmX8 B.2.2.2.1 hK.1 hP hD hS 0 rfl rfl 6 (by decide) (B.2.2.2.2 _ (io_of 272 (by decide +kernel) (by decide +kernel))) (fun _ h9 => h9) rfl hin rfl (by decide +kernel) rfl rfl (Nat.le_of_ble_eq_true rfl) dX8_init_17 (fun H locs hP hD hS => ?_)
  have hP : va_P D vwCl [(h0, .inr (8, [.null, .null, .null, .null, .null, .ref q1, .ref q2, .int 0, .int 0, .int 0, .int 0])), (q1, .inl (ca 0, 6, .inl (fun _ => 0))), (q2, .inl (ca 0, 6, .inl (fun _ => 0)))] H := hP
  have hD : va_D A [(h0, .inr (8, [.null, .null, .null, .null, .null, .ref q1, .ref q2, .int 0, .int 0, .int 0, .int 0])), (q1, .inl (ca 0, 6, .inl (fun _ => 0))), (q2, .inl (ca 0, 6, .inl (fun _ => 0)))] := hD
  refine lv_aload_n B.1 B.2.1 dX8_init_20 rfl (lv_at hl 0 rfl) ?_
  refine lv_iconst (v := 0) B.1 B.2.1 dX8_init_21 (by decide) ?_
  refine va_put (D := D) (ci := 8) (v := .int 0) (ty := .int) (C := RX8) (T := TX8) (N := 11) B.1 B.2.1 B.2.2.2.2 io_in8 tyX8 tyX8_ok nmX8 B.2.2.2.1 hK.1 hP hD hS 0 rfl rfl 7 (by decide) (B.2.2.2.2 _ (io_of 273 (by decide +kernel) (by decide +kernel))) (fun _ h9 => h9) rfl (by decide +kernel) rfl rfl (Nat.le_of_ble_eq_true rfl) dX8_init_22 (fun H locs hP hD hS => ?_)
  have hP : va_P D vwCl [(h0, .inr (8, [.null, .null, .null, .null, .null, .ref q1, .ref q2, .int 0, .int 0, .int 0, .int 0])), (q1, .inl (ca 0, 6, .inl (fun _ => 0))), (q2, .inl (ca 0, 6, .inl (fun _ => 0)))] H := hP
  have hD : va_D A [(h0, .inr (8, [.null, .null, .null, .null, .null, .ref q1, .ref q2, .int 0, .int 0, .int 0, .int 0])), (q1, .inl (ca 0, 6, .inl (fun _ => 0))), (q2, .inl (ca 0, 6, .inl (fun _ => 0)))] := hD
  refine lv_aload_n B.1 B.2.1 dX8_init_25 rfl (lv_at hl 0 rfl) ?_
  refine lv_iconst (v := 0) B.1 B.2.1 dX8_init_26 (by decide) ?_
  refine va_put (D := D) (ci := 8) (v := .int 0) (ty := .int) (C := RX8) (T := TX8) (N := 11) B.1 B.2.1 B.2.2.2.2 io_in8 tyX8 tyX8_ok nmX8 B.2.2.2.1 hK.1 hP hD hS 0 rfl rfl 8 (by decide) (B.2.2.2.2 _ (io_of 274 (by decide +kernel) (by decide +kernel))) (fun _ h9 => h9) rfl (by decide +kernel) rfl rfl (Nat.le_of_ble_eq_true rfl) dX8_init_27 (fun H locs hP hD hS => ?_)
  have hP : va_P D vwCl [(h0, .inr (8, [.null, .null, .null, .null, .null, .ref q1, .ref q2, .int 0, .int 0, .int 0, .int 0])), (q1, .inl (ca 0, 6, .inl (fun _ => 0))), (q2, .inl (ca 0, 6, .inl (fun _ => 0)))] H := hP
  have hD : va_D A [(h0, .inr (8, [.null, .null, .null, .null, .null, .ref q1, .ref q2, .int 0, .int 0, .int 0, .int 0])), (q1, .inl (ca 0, 6, .inl (fun _ => 0))), (q2, .inl (ca 0, 6, .inl (fun _ => 0)))] := hD
  refine lv_aload_n B.1 B.2.1 dX8_init_30 rfl (lv_at hl 0 rfl) ?_
  refine lv_iconst (v := (-1)) B.1 B.2.1 dX8_init_31 (by decide) ?_
  refine va_put (D := D) (ci := 8) (v := .int (-1)) (ty := .int) (C := RX8) (T := TX8) (N := 11) B.1 B.2.1 B.2.2.2.2 io_in8 tyX8 tyX8_ok nmX8 B.2.2.2.1 hK.1 hP hD hS 0 rfl rfl 9 (by decide) (B.2.2.2.2 _ (io_of 275 (by decide +kernel) (by decide +kernel))) (fun _ h9 => h9) rfl (by decide +kernel) rfl rfl (Nat.le_of_ble_eq_true rfl) dX8_init_32 (fun H locs hP hD hS => ?_)
  have hP : va_P D vwCl [(h0, .inr (8, [.null, .null, .null, .null, .null, .ref q1, .ref q2, .int 0, .int 0, .int (-1), .int 0])), (q1, .inl (ca 0, 6, .inl (fun _ => 0))), (q2, .inl (ca 0, 6, .inl (fun _ => 0)))] H := hP
  have hD : va_D A [(h0, .inr (8, [.null, .null, .null, .null, .null, .ref q1, .ref q2, .int 0, .int 0, .int (-1), .int 0])), (q1, .inl (ca 0, 6, .inl (fun _ => 0))), (q2, .inl (ca 0, 6, .inl (fun _ => 0)))] := hD
  refine lv_aload_n B.1 B.2.1 dX8_init_35 rfl (lv_at hl 0 rfl) ?_
  refine lv_iconst (v := 0) B.1 B.2.1 dX8_init_36 (by decide) ?_
  refine va_put (D := D) (ci := 8) (v := .int 0) (ty := .int) (C := RX8) (T := TX8) (N := 11) B.1 B.2.1 B.2.2.2.2 io_in8 tyX8 tyX8_ok nmX8 B.2.2.2.1 hK.1 hP hD hS 0 rfl rfl 10 (by decide) (B.2.2.2.2 _ (io_of 276 (by decide +kernel) (by decide +kernel))) (fun _ h9 => h9) rfl (by decide +kernel) rfl rfl (Nat.le_of_ble_eq_true rfl) dX8_init_37 (fun H locs hP hD hS => ?_)
  have hP : va_P D vwCl [(h0, .inr (8, [.null, .null, .null, .null, .null, .ref q1, .ref q2, .int 0, .int 0, .int (-1), .int 0])), (q1, .inl (ca 0, 6, .inl (fun _ => 0))), (q2, .inl (ca 0, 6, .inl (fun _ => 0)))] H := hP
  have hD : va_D A [(h0, .inr (8, [.null, .null, .null, .null, .null, .ref q1, .ref q2, .int 0, .int 0, .int (-1), .int 0])), (q1, .inl (ca 0, 6, .inl (fun _ => 0))), (q2, .inl (ca 0, 6, .inl (fun _ => 0)))] := hD
  refine lv_aload_n B.1 B.2.1 dX8_init_40 rfl (lv_at hl 0 rfl) ?_
  refine lv_aload_n B.1 B.2.1 dX8_init_41 rfl (lv_at hl 1 rfl) ?_
  refine va_putF (D := D) (ci := 8) (v := .ref r1) (ty := (.object "InputOutput$Script")) (C := RX8) (T := TX8) (N := 11) B.1 B.2.1 B.2.2.2.2 io_in8 tyX8 tyX8_ok nmX8 B.2.2.2.1 hK.1 hP hD hS 0 rfl rfl 0 (by decide) (B.2.2.2.2 _ (io_of 266 (by decide +kernel) (by decide +kernel))) (fun _ h9 => h9) rfl hin rfl (by decide +kernel) rfl rfl (Nat.le_of_ble_eq_true rfl) dX8_init_42 (fun H locs hP hD hS => ?_)
  have hP : va_P D vwCl [(h0, .inr (8, [.ref r1, .null, .null, .null, .null, .ref q1, .ref q2, .int 0, .int 0, .int (-1), .int 0])), (q1, .inl (ca 0, 6, .inl (fun _ => 0))), (q2, .inl (ca 0, 6, .inl (fun _ => 0)))] H := hP
  have hD : va_D A [(h0, .inr (8, [.ref r1, .null, .null, .null, .null, .ref q1, .ref q2, .int 0, .int 0, .int (-1), .int 0])), (q1, .inl (ca 0, 6, .inl (fun _ => 0))), (q2, .inl (ca 0, 6, .inl (fun _ => 0)))] := hD
  refine lv_aload_n B.1 B.2.1 dX8_init_45 rfl (lv_at hl 0 rfl) ?_
  refine lv_aload_n B.1 B.2.1 dX8_init_46 rfl (lv_at hl 2 rfl) ?_
  refine va_putF (D := D) (ci := 8) (v := .ref r2) (ty := (.object "InputOutput$Console")) (C := RX8) (T := TX8) (N := 11) B.1 B.2.1 B.2.2.2.2 io_in8 tyX8 tyX8_ok nmX8 B.2.2.2.1 hK.1 hP hD hS 0 rfl rfl 1 (by decide) (B.2.2.2.2 _ (io_of 267 (by decide +kernel) (by decide +kernel))) (fun _ h9 => h9) rfl hin rfl (by decide +kernel) rfl rfl (Nat.le_of_ble_eq_true rfl) dX8_init_47 (fun H locs hP hD hS => ?_)
  have hP : va_P D vwCl [(h0, .inr (8, [.ref r1, .ref r2, .null, .null, .null, .ref q1, .ref q2, .int 0, .int 0, .int (-1), .int 0])), (q1, .inl (ca 0, 6, .inl (fun _ => 0))), (q2, .inl (ca 0, 6, .inl (fun _ => 0)))] H := hP
  have hD : va_D A [(h0, .inr (8, [.ref r1, .ref r2, .null, .null, .null, .ref q1, .ref q2, .int 0, .int 0, .int (-1), .int 0])), (q1, .inl (ca 0, 6, .inl (fun _ => 0))), (q2, .inl (ca 0, 6, .inl (fun _ => 0)))] := hD
  refine lv_aload_n B.1 B.2.1 dX8_init_50 rfl (lv_at hl 0 rfl) ?_
  refine lv_aload_n B.1 B.2.1 dX8_init_51 rfl (lv_at hl 3 rfl) ?_
  refine va_putF (D := D) (ci := 8) (v := .ref r3) (ty := (.object "InputOutput$Handles")) (C := RX8) (T := TX8) (N := 11) B.1 B.2.1 B.2.2.2.2 io_in8 tyX8 tyX8_ok nmX8 B.2.2.2.1 hK.1 hP hD hS 0 rfl rfl 2 (by decide) (B.2.2.2.2 _ (io_of 268 (by decide +kernel) (by decide +kernel))) (fun _ h9 => h9) rfl hin rfl (by decide +kernel) rfl rfl (Nat.le_of_ble_eq_true rfl) dX8_init_52 (fun H locs hP hD hS => ?_)
  have hP : va_P D vwCl [(h0, .inr (8, [.ref r1, .ref r2, .ref r3, .null, .null, .ref q1, .ref q2, .int 0, .int 0, .int (-1), .int 0])), (q1, .inl (ca 0, 6, .inl (fun _ => 0))), (q2, .inl (ca 0, 6, .inl (fun _ => 0)))] H := hP
  have hD : va_D A [(h0, .inr (8, [.ref r1, .ref r2, .ref r3, .null, .null, .ref q1, .ref q2, .int 0, .int 0, .int (-1), .int 0])), (q1, .inl (ca 0, 6, .inl (fun _ => 0))), (q2, .inl (ca 0, 6, .inl (fun _ => 0)))] := hD
  refine lv_aload_n B.1 B.2.1 dX8_init_55 rfl (lv_at hl 0 rfl) ?_
  refine lv_aload B.1 B.2.1 dX8_init_56 (lv_at hl 4 rfl) ?_
  refine va_putF (D := D) (ci := 8) (v := .ref r4) (ty := (.object "InputOutput$Lists")) (C := RX8) (T := TX8) (N := 11) B.1 B.2.1 B.2.2.2.2 io_in8 tyX8 tyX8_ok nmX8 B.2.2.2.1 hK.1 hP hD hS 0 rfl rfl 3 (by decide) (B.2.2.2.2 _ (io_of 269 (by decide +kernel) (by decide +kernel))) (fun _ h9 => h9) rfl hin rfl (by decide +kernel) rfl rfl (Nat.le_of_ble_eq_true rfl) dX8_init_58 (fun H locs hP hD hS => ?_)
  have hP : va_P D vwCl [(h0, .inr (8, [.ref r1, .ref r2, .ref r3, .ref r4, .null, .ref q1, .ref q2, .int 0, .int 0, .int (-1), .int 0])), (q1, .inl (ca 0, 6, .inl (fun _ => 0))), (q2, .inl (ca 0, 6, .inl (fun _ => 0)))] H := hP
  have hD : va_D A [(h0, .inr (8, [.ref r1, .ref r2, .ref r3, .ref r4, .null, .ref q1, .ref q2, .int 0, .int 0, .int (-1), .int 0])), (q1, .inl (ca 0, 6, .inl (fun _ => 0))), (q2, .inl (ca 0, 6, .inl (fun _ => 0)))] := hD
  refine lv_aload_n B.1 B.2.1 dX8_init_61 rfl (lv_at hl 0 rfl) ?_
  refine lv_aload B.1 B.2.1 dX8_init_62 (lv_at hl 5 rfl) ?_
  refine va_putF (D := D) (ci := 8) (v := .ref r5) (ty := (.object "InputOutput$Journal")) (C := RX8) (T := TX8) (N := 11) B.1 B.2.1 B.2.2.2.2 io_in8 tyX8 tyX8_ok nmX8 B.2.2.2.1 hK.1 hP hD hS 0 rfl rfl 4 (by decide) (B.2.2.2.2 _ (io_of 270 (by decide +kernel) (by decide +kernel))) (fun _ h9 => h9) rfl hin rfl (by decide +kernel) rfl rfl (Nat.le_of_ble_eq_true rfl) dX8_init_64 (fun H locs hP hD hS => ?_)
  have hP : va_P D vwCl [(h0, .inr (8, [.ref r1, .ref r2, .ref r3, .ref r4, .ref r5, .ref q1, .ref q2, .int 0, .int 0, .int (-1), .int 0])), (q1, .inl (ca 0, 6, .inl (fun _ => 0))), (q2, .inl (ca 0, 6, .inl (fun _ => 0)))] H := hP
  have hD : va_D A [(h0, .inr (8, [.ref r1, .ref r2, .ref r3, .ref r4, .ref r5, .ref q1, .ref q2, .int 0, .int 0, .int (-1), .int 0])), (q1, .inl (ca 0, 6, .inl (fun _ => 0))), (q2, .inl (ca 0, 6, .inl (fun _ => 0)))] := hD
  have hP9 := hP.sub (ws' := [(h0, .inr (8, [.ref r1, .ref r2, .ref r3, .ref r4, .ref r5, .ref q1, .ref q2, .int 0, .int 0, .int (-1), .int 0])), (q1, .inl (ca 0, 6, .inl (fun _ => 0))), (q2, .inl (ca 0, 6, .inl (fun _ => 0)))]) [0, 1, 2] rfl
  have hD9 := hD.sub (ws' := [(h0, .inr (8, [.ref r1, .ref r2, .ref r3, .ref r4, .ref r5, .ref q1, .ref q2, .int 0, .int 0, .int (-1), .int 0])), (q1, .inl (ca 0, 6, .inl (fun _ => 0))), (q2, .inl (ca 0, 6, .inl (fun _ => 0)))]) [0, 1, 2] (by decide) rfl
  exact W.vret B.1 B.2.1 hr (fun t ht hW => ⟨⟨(), rfl, trivial, by show io_F_X8_init D ca A h0 r1 r2 r3 r4 r5 t.heap; rw [ht]; exact ⟨q1, q2, hP9, hD9⟩⟩, hS.F ht⟩) hS.2.2 dX8_init_67
