/-! 'new int[8][40]' on the machine: the outer row at the heap's end, the eight inner rows behind it -/
def io_row (cI : ClassId) : Cell := arrV cI 40 (fun _ => .int 0)
def io_out (cA : ClassId) (z i : Nat) : Cell := arrV cA 8 (fun j => if j < i then .ref (z + 1 + j) else .null)
def io_fs (s : State) (cA cI : ClassId) : Nat → State
  | 0 => s.pushCell (io_out cA s.heap.size 0)
  | i + 1 => ((io_fs s cA cI i).pushCell (io_row cI)).setCell s.heap.size (io_out cA s.heap.size (i + 1))
theorem io_out_next (cA : ClassId) (z i : Nat) : (io_out cA z i).setSlot i (.ref (z + 1 + i)) = io_out cA z (i + 1) := by
  unfold io_out
  rw [arrV_store]
  congr 1
  funext j
  by_cases h : j = i
  · subst h
    simp [updV]
  · have h2 : (j < i + 1) = (j < i) := propext ⟨fun q => by omega, fun q => by omega⟩
    simp only [updV, if_neg h, h2]
theorem io_fs_size (s : State) (cA cI : ClassId) : ∀ i, (io_fs s cA cI i).heap.size = s.heap.size + 1 + i
  | 0 => by simp [io_fs]
  | i + 1 => by
    have h := io_fs_size s cA cI i
    simp [io_fs, State.setCell, h]
    omega
theorem io_fs_vm (s : State) (cA cI : ClassId) : ∀ i, (io_fs s cA cI i).vm = s.vm
  | 0 => rfl
  | i + 1 => by simp [io_fs, io_fs_vm s cA cI i]
theorem io_fs_out (s : State) (cA cI : ClassId) : ∀ i, (io_fs s cA cI i).heap[s.heap.size]? = some (io_out cA s.heap.size i)
  | 0 => by simp [io_fs]
  | i + 1 => by
    have h := io_fs_out s cA cI i
    have hz := io_fs_size s cA cI i
    have hb : ((io_fs s cA cI i).pushCell (io_row cI)).heap[s.heap.size]? = some (io_out cA s.heap.size i) := by
      have hlt : s.heap.size < (io_fs s cA cI i).heap.size := by rw [hz]; omega
      rw [State.heap_pushCell_of_lt (h := hlt)]
      exact h
    exact State.heap_setCell_self hb
theorem io_fs_used (s : State) (cA cI : ClassId) : ∀ i, (io_fs s cA cI i).slotsUsed = s.slotsUsed + 8 + i * 40
  | 0 => by
    have h : (io_out cA s.heap.size 0).slots.size = 8 := arrV_size _ _ _
    simp [io_fs, h]
  | i + 1 => by
    have h := io_fs_used s cA cI i
    have h2 : (io_row cI).slots.size = 40 := arrV_size _ _ _
    simp [io_fs, h, h2]
    omega
theorem io_fs_top (s : State) (f : JFrame) (cA cI : ClassId) : ∀ i, io_fs (s.setTop f) cA cI i = (io_fs s cA cI i).setTop f
  | 0 => rfl
  | i + 1 => by simp only [io_fs, io_fs_top s f cA cI i, State.heap_setTop, State.pushCell_setTop, State.setCell_setTop]
theorem io_fs_old (s : State) (cA cI : ClassId) {a : Addr} (ha : a < s.heap.size) : ∀ i, (io_fs s cA cI i).heap[a]? = s.heap[a]?
  | 0 => State.heap_pushCell_of_lt _ _ ha
  | i + 1 => by
    have hz := io_fs_size s cA cI i
    show (((io_fs s cA cI i).pushCell (io_row cI)).setCell s.heap.size _).heap[a]? = _
    have hlt : a < (io_fs s cA cI i).heap.size := by rw [hz]; exact Nat.lt_of_lt_of_le ha (by omega)
    rw [State.heap_setCell_other (Nat.ne_of_gt ha), State.heap_pushCell_of_lt (h := hlt)]
    exact io_fs_old s cA cI ha i
theorem io_fs_row (s : State) (cA cI : ClassId) : ∀ i j, j < i → (io_fs s cA cI i).heap[s.heap.size + 1 + j]? = some (io_row cI)
  | 0, _, h => absurd h (Nat.not_lt_zero _)
  | i + 1, j, h => by
    have hz := io_fs_size s cA cI i
    show (((io_fs s cA cI i).pushCell (io_row cI)).setCell s.heap.size _).heap[s.heap.size + 1 + j]? = _
    rw [State.heap_setCell_other (show s.heap.size ≠ s.heap.size + 1 + j by omega)]
    by_cases hj : j < i
    · have hlt : s.heap.size + 1 + j < (io_fs s cA cI i).heap.size := by rw [hz]; omega
      rw [State.heap_pushCell_of_lt (h := hlt)]
      exact io_fs_row s cA cI i j hj
    · have e : j = i := by omega
      subst e
      rw [← hz]
      exact State.heap_pushCell_size _ _
section IMA
variable {E : CtlPost} {e : Env} {d : Bool} {acts : List Action} {s : State}
theorem io_wpArr {c comp : ClassId} {k : Class} {type : FieldType} {len : Nat} {v : Value} (hk : s.vm.classes[c]? = some k) (hkind : k.kind = .array comp type) (hlim : ¬ len > e.platform.arrayLengthLimit) (hheap : ¬ len * componentBytes type > e.platform.maxHeapBytes) (hfit : fits type v = true) (hdef : v.isDefault = true) {Q : Addr → Pre} (h1 : s.heap.size < e.platform.maxCells) (h2 : s.slotsUsed + len ≤ e.platform.maxSlots) (hq : Q s.heap.size d acts (s.pushCell (arrV c len (fun _ => v)))) : wp (Jvm.newArray c len v) Q E e d acts s := by
  rw [← arrV_new] at hq
  have hfits : ∀ i w, (Array.replicate len v)[i]? = some w → s.fitsSlot c .none i w = true := by
    intro i w hw
    rw [Array.getElem?_replicate] at hw
    by_cases hi : i < len
    · rw [if_pos hi] at hw
      cases hw
      simp [State.fitsSlot, State.slotType?, hk, hkind, hfit]
    · rw [if_neg hi] at hw
      cases hw
  have hall : ((Array.replicate len v).all (·.isDefault)) = true := by
    rw [Array.all_replicate]
    split <;> simp [hdef]
  have hact : allocActs (Array.replicate len v) s.heap.size acts = acts := by
    unfold allocActs
    rw [if_pos hall]
  simp only [Jvm.newArray, Jvm.arrayFits, wp_bind', W.ask, W.ite, hlim, if_false, wp_pure', W.theClass, hk, hkind, hheap, W.alloc, W.stop, Option.some.injEq, exists_eq_left', Array.size_replicate, hact]
  rw [if_neg (by omega)]
  exact ⟨h1, h2, hfits, hq⟩
theorem io_wpRow {cI cc : ClassId} {kc : Class} (hkc : s.vm.classes[cI]? = some kc) (hkind : kc.kind = .array cc .int) (hl : ¬ 40 > e.platform.arrayLengthLimit) (hh : ¬ 40 * componentBytes .int > e.platform.maxHeapBytes) (h1 : s.heap.size < e.platform.maxCells) (h2 : s.slotsUsed + 40 ≤ e.platform.maxSlots) {Q : Addr → Pre} (hq : Q s.heap.size d acts (s.pushCell (io_row cI))) : wp (multianewarray.make cI [40]) Q E e d acts s := by
  have hm : ¬ (40 : Int32) < 0 := by decide
  have hz : (40 : Int32).toNatClampNeg = 40 := by decide
  rw [multianewarray.make]
  simp only [wp_bind', W.ite, hm, if_false, wp_pure', W.theClass, hkc, hkind, Option.some.injEq, exists_eq_left']
  rw [hz]
  exact io_wpArr hkc hkind hl hh rfl rfl h1 h2 hq
theorem io_wpGrid {cA cI cc : ClassId} {k kc : Class} (hk : s.vm.classes[cA]? = some k) (hkind : k.kind = .array cI (.array .int)) (hkc : s.vm.classes[cI]? = some kc) (hkindc : kc.kind = .array cc .int) (hl1 : ¬ 8 > e.platform.arrayLengthLimit) (hh1 : ¬ 8 * componentBytes (.array .int) > e.platform.maxHeapBytes) (hl2 : ¬ 40 > e.platform.arrayLengthLimit) (hh2 : ¬ 40 * componentBytes .int > e.platform.maxHeapBytes) (hc : s.heap.size + 9 ≤ e.platform.maxCells) (hs : s.slotsUsed + 328 ≤ e.platform.maxSlots) {Q : Addr → Pre} (hq : ∀ d' acts', Q s.heap.size d' acts' (io_fs s cA cI 8)) : wp (multianewarray.make cA [8, 40]) Q E e d acts s := by
  have hn : ¬ (8 : Int32) < 0 := by decide
  have hz : (8 : Int32).toNatClampNeg = 8 := by decide
  have hfind : (([40] : List Int32).find? (· < 0)) = none := by decide
  rw [multianewarray.make]
  simp only [wp_bind', W.ite, hn, if_false, wp_pure', W.theClass, hk, hkind, Option.some.injEq, exists_eq_left']
  rw [hz]
  refine io_wpArr hk hkind hl1 hh1 rfl rfl (by omega) (by omega) ?_
  simp only [hfind]
  rw [ite_self, wp_bind', Std.Legacy.Range.forIn_eq_forIn_range']
  show wp (forIn (List.range' 0 8 1) PUnit.unit _) _ E e d acts _
  refine wp_forIn_inv (fun rest s' => ∃ i, i ≤ 8 ∧ rest = List.range' i (8 - i) ∧ s' = io_fs s cA cI i) _ _ ⟨0, by omega, rfl, ?_⟩ ?_ ?_
  · show _ = s.pushCell _
    congr 1
  · intro x rest s' d' acts' Q' hI hnext
    obtain ⟨i, hi, hlist, rfl⟩ := hI
    have hlt : i < 8 := by
      by_cases h : i < 8
      · exact h
      · rw [show 8 - i = 0 by omega] at hlist
        cases hlist
    rw [show 8 - i = (8 - (i + 1)) + 1 by omega, List.range'_succ] at hlist
    obtain ⟨rfl, hrest⟩ := List.cons.inj hlist
    have f1 := io_fs_size s cA cI x
    have f2 := io_fs_out s cA cI x
    have f3 := io_fs_vm s cA cI x
    have f4 := io_fs_used s cA cI x
    simp only [wp_bind']
    refine io_wpRow (by rw [f3]; exact hkc) hkindc hl2 hh2 (by rw [f1]; omega) (by rw [f4]; omega) ?_
    have hlt0 : s.heap.size < (io_fs s cA cI x).heap.size := by rw [f1]; omega
    simp only [wp_bind', W.writeLoc, wp_pure']
    refine ⟨io_out cA s.heap.size x, by rw [State.heap_pushCell_of_lt (h := hlt0)]; exact f2, (fun h => by cases h), (by rw [show (io_out cA s.heap.size x).slots.size = 8 from arrV_size _ _ _]; exact hlt), ?_, hnext _ _ _ ⟨x + 1, hlt, hrest, ?_⟩⟩
    · simp [io_out, arrV, State.fitsSlot, State.slotType?, f3, hk, hkind, fits]
    · rw [f1, io_out_next]
      rfl
  · intro s' d' acts' hI
    obtain ⟨i, hi, hlist, rfl⟩ := hI
    have e8 : i = 8 := by
      by_cases h : i < 8
      · rw [show 8 - i = (8 - (i + 1)) + 1 by omega, List.range'_succ] at hlist
        cases hlist
      · omega
    subst e8
    simp only [wp_pure']
    exact hq _ _
end IMA
section IMB
variable {p : Program} {l : Launch} {e : Env} {R : Room} {s : State} {m : MethodId} {args : Array Value} {below : List Frame} {meth : Method} {c : Code} {T : State} {locs : List Loc} {cells slots : Nat}
theorem io_filled (X : Stand p l e R s m args below meth c T locs cells slots) (cA cI : ClassId) : ∀ i, Stand p l e R s m args below meth c (io_fs T cA cI i) (locs ++ (List.range i).map fun j => ⟨T.heap.size, j⟩) (cells + 1 + i) (slots + 8 + i * 40)
  | 0 => by
    have h := X.pushed (io_out cA T.heap.size 0)
    rw [show (io_out cA T.heap.size 0).slots.size = 8 from arrV_size _ _ _] at h
    simpa [io_fs] using h
  | i + 1 => by
    have Xi := io_filled X cA cI i
    have hz := io_fs_size T cA cI i
    have hlt : T.heap.size < (io_fs T cA cI i).heap.size := by rw [hz]; omega
    have hcell : ((io_fs T cA cI i).pushCell (io_row cI)).heap[T.heap.size]? = some (io_out cA T.heap.size i) := by
      rw [State.heap_pushCell_of_lt (h := hlt)]
      exact io_fs_out T cA cI i
    have h := (Xi.pushed (io_row cI)).stored hcell i (.ref (T.heap.size + 1 + i))
    rw [show (io_row cI).slots.size = 40 from arrV_size _ _ _, io_out_next] at h
    have e2 : (locs ++ (List.range (i + 1)).map fun j => (⟨T.heap.size, j⟩ : Loc)) = (locs ++ (List.range i).map fun j => (⟨T.heap.size, j⟩ : Loc)) ++ [⟨T.heap.size, i⟩] := by simp [List.range_succ, List.append_assoc]
    have e3 : slots + 8 + (i + 1) * 40 = slots + 8 + i * 40 + 40 := by omega
    rw [e2, e3]
    exact h
theorem io_grid (X : Stand p l e R s m args below meth c T locs cells slots) (hexec : p.tables.exec = Jvm.exec) {own : String} {index : Nat} (hown : s.vm.findClass own = some m.cls) (hclink : (Cond.classLink own index "[[I").before args s = true) (hover : (Cond.arrayOver (.array .int)).before args s = true) (harr : (Cond.arrayClass .int).before args s = true) {g : JFrame} (hg : g.method = m) (hdg : decode c.code g.pc = .ok (.multianewarray index 2, 4)) {rest : List Value} (hstack : g.stack = .int 40 :: .int 8 :: rest) (hcells : cells + 9 ≤ R.cells) (hslots : slots + 328 ≤ R.slots) :
    ∃ (vm₁ : Vm) (cA cI : ClassId), s.WarmedH vm₁ ∧ s.vm.findClass "[[I" = some cA ∧ s.vm.findClass "[I" = some cI ∧ Stand p l e R s m args below meth c (io_fs (T.setVm vm₁) cA cI 8) (locs ++ (List.range 8).map fun j => ⟨T.heap.size, j⟩) (cells + 1 + 8) (slots + 8 + 8 * 40) ∧
      ∀ target, Steps p.tables e below ((io_fs (T.setVm vm₁) cA cI 8).setTop { g with pc := g.pc + 4, stack := .ref T.heap.size :: rest }) target → Steps p.tables e below (T.setTop g) target := by
  subst hg
  have hpl : e.platform.magicAccessors = ({} : Platform).magicAccessors := by rw [X.admits.platform]
  obtain ⟨comp, cA, kA, hcomp, -, hkA, hkindA, hnameA⟩ := arrayOverA_spec hover
  obtain ⟨comp', kC, cc, hcomp', hkC, hkindC⟩ := Cond.arrayClass_spec harr
  have ecomp : comp' = comp := Option.some.inj (hcomp'.symm.trans hcomp)
  subst ecomp
  obtain ⟨c0, hfc0, hcl⟩ := Cond.classLink_spec hown hclink e.platform hpl
  cases hnameA.symm.trans hfc0
  obtain ⟨hg₁, hwarm₁, hready₁⟩ := State.classEntry (e := e) X.warmed hcl
  generalize T.vm.noted g.method.cls index (.cls cA) = vm₁ at hg₁ hwarm₁ hready₁
  obtain ⟨kA₁, hkA₁, heA⟩ := hwarm₁.alike.2.2 _ _ hkA
  obtain ⟨kC₁, hkC₁, heC⟩ := hwarm₁.alike.2.2 _ _ hkC
  have X₁ := X.noted hwarm₁
  obtain ⟨hr1, hr2⟩ := X.roomAbove hcells hslots
  refine ⟨vm₁, cA, comp', hwarm₁, hnameA, hcomp, io_filled X₁ cA comp' 8, fun target hrest => ?_⟩
  have hl1 : ¬ 8 > e.platform.arrayLengthLimit := by rw [Launch.admits_arrayLengthLimit X.admits]; omega
  have hh1 : ¬ 8 * componentBytes (.array .int) > e.platform.maxHeapBytes := by rw [Launch.admits_maxHeapBytes X.admits]; decide
  have hl2 : ¬ 40 > e.platform.arrayLengthLimit := by rw [Launch.admits_arrayLengthLimit X.admits]; omega
  have hh2 : ¬ 40 * componentBytes .int > e.platform.maxHeapBytes := by rw [Launch.admits_maxHeapBytes X.admits]; decide
  jvm_step X.here [hexec, hdg]
  simp only [multianewarray.sem, wp_bind', W.resolveClassAt_links (State.method?_setTop g X.here.top) hg₁]
  rw [W.popN, if_neg (by decide)]
  refine ⟨g, State.topJava?_setTop' (s := T.setVm vm₁) g X.here.top, [.int 8, .int 40], rest, rfl, hstack, ?_⟩
  simp only [List.mapM_cons, List.mapM_nil, wp_bind', wp_pure']
  refine io_wpGrid (k := kA₁) (kc := kC₁) (cI := comp') (cc := cc) hkA₁ (by rw [heA]; exact hkindA) hkC₁ (by rw [heC]; exact hkindC) hl1 hh1 hl2 hh2 (by show T.heap.size + 9 ≤ _; omega) (by show T.slotsUsed + 328 ≤ _; omega) (fun d' acts' => ?_)
  have XF := io_filled X₁ cA comp' 8
  have eS : ((T.setTop g).setVm vm₁).setTop { g with stack := rest } = (T.setVm vm₁).setTop { g with stack := rest } := by
    show ((T.setVm vm₁).setTop g).setTop _ = _
    rw [State.setTop_setTop]
  rw [eS, io_fs_top]
  simp only [wp_bind', W.mark, W.pushRef, State.topJava?_setTop' _ XF.here.top, Option.some.injEq, exists_eq_left', State.setTop_setTop, State.heap_setTop]
  intro acts
  simp [jvm, XF.here.top]
  exact hrest
end IMB
