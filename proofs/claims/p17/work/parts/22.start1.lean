theorem io_pc {D : va_G} {cl : List vw_C} {ws : va_W} {H : Heap} {a : Nat} {cA : ClassId} {n : Nat} {f g : Nat → Option Nat} (hP : va_P D cl ws H) (k : Nat) (he : ws[k]? = some (a, .inl (cA, n, .inr (.inr (.inr (.inr f)))))) (hfg : ∀ i, i < n → f i = g i) : va_P D cl (ws.set k (a, .inl (cA, n, .inr (.inr (.inr (.inr g)))))) H := by
  intro j q hq
  rw [List.getElem?_set] at hq
  by_cases h : k = j
  · rw [if_pos h] at hq
    by_cases h2 : k < ws.length
    · rw [if_pos h2] at hq
      cases hq
      have h3 := hP k _ he
      show H[a]? = some (vp_cell _ _)
      have h4 : H[a]? = some (vp_cell cA (n, .inr (.inr (.inr (.inr f))))) := h3
      rw [h4, vp_cell_q, vp_cell_q]
      congr 1
      unfold arrV
      congr 2
      funext z
      show va_rf (f z.val) = va_rf (g z.val)
      rw [hfg z.val z.isLt]
    · rw [if_neg h2] at hq
      cases hq
  · rw [if_neg h] at hq
    exact hP j q hq
set_option maxRecDepth 100000 in
theorem io_T_FIRST_BOUNDS {s : State} {b : Nat} (hts : ∀ w ∈ lw_tbl, w.before #[Value.ref b] s = true) (hgv : (Jvm.Cond.and given_1 narrow_1).before #[Value.ref b] s = true) : io_T1 (fun q : Nat => s.heap.size ≤ q) s s.heap "FIRST_BOUNDS" io_b1 := by
  have hs := flat_of_before _ hgv
  have hA : ∀ a : Nat, a < s.heap.size → ¬ (fun q : Nat => s.heap.size ≤ q) a := fun a h => Nat.not_le.mpr h
  have hm : ∀ j, j < 29 → Cond.eq (.elem (.static "InputOutput$Script" "FIRST_BOUNDS" "[I") (.int (Int32.ofNat j))) (.int (io_b1 j)) ∈ flatC (Jvm.Cond.and given_1 narrow_1) := by decide +kernel
  obtain ⟨t, ht, hT⟩ := va_Tof (A := fun q : Nat => s.heap.size ≤ q) (tm := .static "InputOutput$Script" "FIRST_BOUNDS" "[I") (ty := .int) (N := 29) (f := fun j => .int (io_b1 j)) (by decide) (hs _ (by decide +kernel)) (va_eqt (hs (Cond.eq (.length (.static "InputOutput$Script" "FIRST_BOUNDS" "[I")) (.int 29)) (by decide +kernel))) (fun j hj => va_eqt (hs _ (hm j hj))) hA
  exact ⟨t, va_Zref (hts (.laysStatic "InputOutput$Script" "FIRST_BOUNDS" "[I") (List.mem_of_getElem? (i := 386) (by decide +kernel))) (hts (.initialized "InputOutput$Script") (List.mem_of_getElem? (i := 69) (by decide +kernel))) ht hA, hT⟩
set_option maxRecDepth 100000 in
theorem io_T_SECOND_BOUNDS {s : State} {b : Nat} (hts : ∀ w ∈ lw_tbl, w.before #[Value.ref b] s = true) (hgv : (Jvm.Cond.and given_1 narrow_1).before #[Value.ref b] s = true) : io_T1 (fun q : Nat => s.heap.size ≤ q) s s.heap "SECOND_BOUNDS" io_b2 := by
  have hs := flat_of_before _ hgv
  have hA : ∀ a : Nat, a < s.heap.size → ¬ (fun q : Nat => s.heap.size ≤ q) a := fun a h => Nat.not_le.mpr h
  have hm : ∀ j, j < 29 → Cond.eq (.elem (.static "InputOutput$Script" "SECOND_BOUNDS" "[I") (.int (Int32.ofNat j))) (.int (io_b2 j)) ∈ flatC (Jvm.Cond.and given_1 narrow_1) := by decide +kernel
  obtain ⟨t, ht, hT⟩ := va_Tof (A := fun q : Nat => s.heap.size ≤ q) (tm := .static "InputOutput$Script" "SECOND_BOUNDS" "[I") (ty := .int) (N := 29) (f := fun j => .int (io_b2 j)) (by decide) (hs _ (by decide +kernel)) (va_eqt (hs (Cond.eq (.length (.static "InputOutput$Script" "SECOND_BOUNDS" "[I")) (.int 29)) (by decide +kernel))) (fun j hj => va_eqt (hs _ (hm j hj))) hA
  exact ⟨t, va_Zref (hts (.laysStatic "InputOutput$Script" "SECOND_BOUNDS" "[I") (List.mem_of_getElem? (i := 393) (by decide +kernel))) (hts (.initialized "InputOutput$Script") (List.mem_of_getElem? (i := 69) (by decide +kernel))) ht hA, hT⟩
set_option maxRecDepth 100000 in
theorem io_T_THIRD_BOUNDS {s : State} {b : Nat} (hts : ∀ w ∈ lw_tbl, w.before #[Value.ref b] s = true) (hgv : (Jvm.Cond.and given_1 narrow_1).before #[Value.ref b] s = true) : io_T1 (fun q : Nat => s.heap.size ≤ q) s s.heap "THIRD_BOUNDS" io_b3 := by
  have hs := flat_of_before _ hgv
  have hA : ∀ a : Nat, a < s.heap.size → ¬ (fun q : Nat => s.heap.size ≤ q) a := fun a h => Nat.not_le.mpr h
  have hm : ∀ j, j < 29 → Cond.eq (.elem (.static "InputOutput$Script" "THIRD_BOUNDS" "[I") (.int (Int32.ofNat j))) (.int (io_b3 j)) ∈ flatC (Jvm.Cond.and given_1 narrow_1) := by decide +kernel
  obtain ⟨t, ht, hT⟩ := va_Tof (A := fun q : Nat => s.heap.size ≤ q) (tm := .static "InputOutput$Script" "THIRD_BOUNDS" "[I") (ty := .int) (N := 29) (f := fun j => .int (io_b3 j)) (by decide) (hs _ (by decide +kernel)) (va_eqt (hs (Cond.eq (.length (.static "InputOutput$Script" "THIRD_BOUNDS" "[I")) (.int 29)) (by decide +kernel))) (fun j hj => va_eqt (hs _ (hm j hj))) hA
  exact ⟨t, va_Zref (hts (.laysStatic "InputOutput$Script" "THIRD_BOUNDS" "[I") (List.mem_of_getElem? (i := 395) (by decide +kernel))) (hts (.initialized "InputOutput$Script") (List.mem_of_getElem? (i := 69) (by decide +kernel))) ht hA, hT⟩
set_option maxRecDepth 100000 in
theorem io_known {s : State} {b : Nat} (hts : ∀ w ∈ lw_tbl, w.before #[Value.ref b] s = true) : ∃ (D : va_G) (ca : Nat → ClassId), io_BK D ca s := by
  have htb : ∀ w ∈ io_tb, w.before #[Value.ref b] s = true := fun w hw => hts w (List.mem_filter.mp hw).1
  obtain ⟨c0, i0, h0⟩ := u_known (C := RX0) (T := TX0) (N := 5) (n := 5) htb io_in0 (htb (.instantiable RX0 5) (io_of 117 (by decide +kernel) (by decide +kernel)))
  obtain ⟨c1, i1, h1⟩ := u_known (C := RX1) (T := TX1) (N := 5) (n := 5) htb io_in1 (htb (.instantiable RX1 5) (io_of 88 (by decide +kernel) (by decide +kernel)))
  obtain ⟨c2, i2, h2⟩ := u_known (C := RX2) (T := TX2) (N := 11) (n := 11) htb io_in2 (htb (.instantiable RX2 11) (io_of 168 (by decide +kernel) (by decide +kernel)))
  obtain ⟨c3, i3, h3⟩ := u_known (C := RX3) (T := TX3) (N := 3) (n := 3) htb io_in3 (htb (.instantiable RX3 3) (io_of 161 (by decide +kernel) (by decide +kernel)))
  obtain ⟨c4, i4, h4⟩ := u_known (C := RX4) (T := TX4) (N := 2) (n := 2) htb io_in4 (htb (.instantiable RX4 2) (io_of 248 (by decide +kernel) (by decide +kernel)))
  obtain ⟨c5, i5, h5⟩ := u_known (C := RX5) (T := TX5) (N := 3) (n := 3) htb io_in5 (htb (.instantiable RX5 3) (io_of 225 (by decide +kernel) (by decide +kernel)))
  obtain ⟨c6, i6, h6⟩ := u_known (C := RX6) (T := TX6) (N := 2) (n := 2) htb io_in6 (htb (.instantiable RX6 2) (io_of 218 (by decide +kernel) (by decide +kernel)))
  obtain ⟨c7, i7, h7⟩ := u_known (C := RX7) (T := TX7) (N := 5) (n := 5) htb io_in7 (htb (.instantiable RX7 5) (io_of 139 (by decide +kernel) (by decide +kernel)))
  obtain ⟨c8, i8, h8⟩ := u_known (C := RX8) (T := TX8) (N := 11) (n := 11) htb io_in8 (htb (.instantiable RX8 11) (io_of 261 (by decide +kernel) (by decide +kernel)))
  obtain ⟨c9, i9, h9⟩ := u_known (C := RX9) (T := TX9) (N := 7) (n := 7) htb io_in9 (htb (.instantiable RX9 7) (io_of 80 (by decide +kernel) (by decide +kernel)))
  obtain ⟨c10, i10, h10⟩ := u_known (C := RX10) (T := TX10) (N := 53) (n := 53) htb io_in10 (htb (.instantiable RX10 53) (io_of 828 (by decide +kernel) (by decide +kernel)))
  obtain ⟨a0, k0, p0, n0, e0, d0⟩ := Cond.arrayClass_spec (htb (.arrayClass .int) (io_of 115 (by decide +kernel) (by decide +kernel)))
  obtain ⟨a1, k1, p1, n1, e1, d1⟩ := Cond.arrayClass_spec (htb (.arrayClass .byte) (io_of 993 (by decide +kernel) (by decide +kernel)))
  obtain ⟨a2, k2, p2, n2, e2, d2⟩ := Cond.arrayClass_spec (htb (.arrayClass .boolean) (io_of 114 (by decide +kernel) (by decide +kernel)))
  have o3 : (Cond.arrayOver (.object "InputOutput$Handle")).before #[Value.ref b] s = true := hts _ (List.mem_of_getElem? (i := 167) (by decide +kernel))
  obtain ⟨p3, a3, k3, n3, -, e3, d3, f3⟩ := Cond.arrayOver_spec o3
  have o4 : (Cond.arrayOver (.object "InputOutput$LazyList")).before #[Value.ref b] s = true := hts _ (List.mem_of_getElem? (i := 224) (by decide +kernel))
  obtain ⟨p4, a4, k4, n4, -, e4, d4, f4⟩ := Cond.arrayOver_spec o4
  have o5 : (Cond.arrayOver (.array .int)).before #[Value.ref b] s = true := hts _ (List.mem_of_getElem? (i := 94) (by decide +kernel))
  obtain ⟨p5, a5, k5, n5, -, e5, d5, f5⟩ := arrayOverA_spec o5
  refine ⟨(fun k => if k = 0 then c0 else if k = 1 then c1 else if k = 2 then c2 else if k = 3 then c3 else if k = 4 then c4 else if k = 5 then c5 else if k = 6 then c6 else if k = 7 then c7 else if k = 8 then c8 else if k = 9 then c9 else c10, fun k => if k = 0 then i0 else if k = 1 then i1 else if k = 2 then i2 else if k = 3 then i3 else if k = 4 then i4 else if k = 5 then i5 else if k = 6 then i6 else if k = 7 then i7 else if k = 8 then i8 else if k = 9 then i9 else i10), fun k => if k = 0 then a0 else if k = 1 then a1 else if k = 2 then a2 else if k = 3 then a3 else if k = 4 then a4 else a5, ⟨?_, ?_⟩, o3, o4, over_moved (Vm.Alike.refl s.vm) o5, ?_⟩
  · intro k q hq
    match k, hq with
    | 0, hq => cases hq; exact h0
    | 1, hq => cases hq; exact h1
    | 2, hq => cases hq; exact h2
    | 3, hq => cases hq; exact h3
    | 4, hq => cases hq; exact h4
    | 5, hq => cases hq; exact h5
    | 6, hq => cases hq; exact h6
    | 7, hq => cases hq; exact h7
    | 8, hq => cases hq; exact h8
    | 9, hq => cases hq; exact h9
    | 10, hq => cases hq; exact h10
    | k + 11, hq => cases hq
  · intro k q hq
    match k, hq with
    | 0, hq => cases hq; exact ⟨fun n z => ⟨fun k h => (by cases h), k0, e0, p0, d0⟩, n0⟩
    | 1, hq => cases hq; exact ⟨fun n z => ⟨fun k h => (by cases h), k1, e1, p1, d1⟩, n1⟩
    | 2, hq => cases hq; exact ⟨fun n z => ⟨fun k h => (by cases h), k2, e2, p2, d2⟩, n2⟩
    | 3, hq => cases hq; exact ⟨fun n z => ⟨fun k h => (by cases h), k3, e3, p3, d3⟩, k3, p3, e3, d3, n3, f3⟩
    | 4, hq => cases hq; exact ⟨fun n z => ⟨fun k h => (by cases h), k4, e4, p4, d4⟩, k4, p4, e4, d4, n4, f4⟩
    | 5, hq => cases hq; exact ⟨fun n z => ⟨fun k h => (by cases h), k5, e5, p5, d5⟩, f5⟩
    | k + 6, hq => cases hq
  · have hn : ∀ q ∈ io_nl, Cond.methodLinkNest q.1 q.2.1 q.2.2 "InputOutput" ∈ lw_tbl := by decide +kernel
    exact fun q hq => va_Nw.of rfl (hts _ (hn q hq))
