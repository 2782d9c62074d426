theorem io_src_neg {ad : Nat → Nat} {x : Int32} (h : x < 0) : io_src ad x = none := if_pos h
theorem io_src_pos {ad : Nat → Nat} {x : Int32} (h : ¬ x < 0) : io_src ad x = some (ad x.toNatClampNeg) := if_neg h
section IS
variable {p : Program} {l : Launch} {e : Env} {R : Room} {s : State} {m : MethodId} {args : Array Value} {below : List Frame} {meth : Method} {c : Code} {H : Heap} {locs : List Loc} {cells slots : Nat} {Q : State → Prop} {cc : ByteArray} {pc nL : Nat} {ls : Array Slot} {rest : List Value} {D : va_G} {ca : Nat → ClassId} {ad : Nat → Nat} {A : Nat → Prop} {σ : io_M}
theorem io_ret_r0 {post : Option Nat → io_M → Prop} {own C : String} {i : Nat} (B : CallFix p m c cc nL s args io_tb own) (Z : io_Z D ca ad A s H locs σ) (hr : meth.sig.returnType = some (.object C)) (hk : meth.locks = false) (hi : i < 20) (hw : post (some i) σ) (hdg : decode cc pc = .ok (.areturn, 1)) : W p l e R s m args below meth c H locs cells slots (MQ below (va_Qq (fun r u => ∃ o : Option Nat, r = o.map (fun i => ad (0 + i)) ∧ (∀ i, o = some i → i < 20) ∧ post o u) (io_W D ca ad A) A) args s cells slots A) (F0 m pc ls [.ref (ad i)]) := by
  have h := io_ret_r (l := l) (e := e) (R := R) (below := below) (cells := cells) (slots := slots) (ls := ls) (b := 0) B Z hr hk hi hw hdg
  rw [Nat.zero_add] at h
  exact h
theorem io_tswE {dflt lo hi : Int} {offs : Array Int} {len : Nat} {x : Int32} {tgt : Nat} {own : String} (P : Int32 → Prop) (B : CallFix p m c cc nL s args io_tb own) (hdg : decode cc pc = .ok (.tableswitch dflt lo hi offs, len)) (ht : (pc : Int) + dflt = (tgt : Int)) (hlo : 0 ≤ lo) (hhi : hi < 1000) (htab : ∀ j : Nat, j < hi.toNat + 1 → lo.toNat ≤ j → P (nI j) ∨ offs[j - lo.toNat]? = some dflt) (hx : ¬ P x) (k : W p l e R s m args below meth c H locs cells slots Q (F0 m tgt ls rest)) : W p l e R s m args below meth c H locs cells slots Q (F0 m pc ls (.int x :: rest)) := io_tswD (n := 0) P B hdg ht hlo hhi htab hx k
end IS
theorem io_nc {l : List Int32} {x : Int32} (h : ∀ v ∈ l, ¬ x = v) : ¬ (l.contains x = true) := by
  intro q
  rw [List.contains_iff_mem] at q
  exact h x q rfl
