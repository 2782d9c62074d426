/-! class and reference side by side: bytes, sums, what is alike -/
theorem bp_b (x : Int32) : x.toInt8.toInt32 &&& 255 = x &&& 255 := by
  apply Int32.toBitVec_inj.mp
  rw [Int32.toBitVec_and, Int32.toBitVec_and, Int8.toBitVec_toInt32, Int32.toBitVec_toInt8]
  apply BitVec.eq_of_getLsbD_eq
  intro i hi
  rw [BitVec.getLsbD_and, BitVec.getLsbD_and]
  have hm : ∀ i < 32, 8 ≤ i → (255 : Int32).toBitVec.getLsbD i = false := by decide
  rcases Nat.lt_or_ge i 8 with z | z
  · rw [BitVec.getLsbD_signExtend, BitVec.getLsbD_signExtend, if_pos z, if_pos hi]
    simp only [z, hi, decide_true, Bool.true_and]
  · rw [hm i hi z]; simp
theorem nx_and (a b : Nat) : nI a &&& nI b = nI (a &&& b) := by
  apply Int32.toBitVec_inj.1
  show BitVec.ofNat 32 a &&& BitVec.ofNat 32 b = BitVec.ofNat 32 (a &&& b)
  apply BitVec.eq_of_getLsbD_eq
  intro i hi
  simp [hi]
theorem wb_of32 (x : Int32) : ∃ n, n < 2 ^ 32 ∧ x = nI n := ⟨x.toBitVec.toNat, x.toBitVec.isLt, Int32.toBitVec_inj.mp (by show _ = BitVec.ofNat 32 _; simp)⟩
theorem by_r (x : Int32) : 0 ≤ (x &&& 255).toInt ∧ (x &&& 255).toInt ≤ 255 := by
  obtain ⟨n, _, e⟩ := wb_of32 x
  have h : n &&& 255 ≤ 255 := Nat.and_le_right
  rw [e, show (255 : Int32) = nI 255 from rfl, nx_and, pz_nI (by omega)]
  omega
theorem by_n (x : Int32) : ¬ x &&& 255 = -1 := by
  intro e
  have h := by_r x
  rw [e, l_m1] at h
  omega
theorem by_id {v : Int32} (h : 0 ≤ v.toInt ∧ v.toInt < 256) : v &&& 255 = v := by
  have e := pz_nI_of h.1
  have k := sc_k8 v.toNatClampNeg (by rw [pz_cl]; omega)
  rw [bp_b, ← e] at k
  exact k
theorem by_1 (x : Int32) : x &&& 1 = 0 ∨ x &&& 1 = 1 := by
  obtain ⟨n, _, e⟩ := wb_of32 x
  have h : n &&& 1 ≤ 1 := Nat.and_le_right
  rw [e, show (1 : Int32) = nI 1 from rfl, nx_and]
  have : n &&& 1 = 0 ∨ n &&& 1 = 1 := by omega
  rcases this with q | q
  · rw [q]; exact Or.inl rfl
  · rw [q]; exact Or.inr rfl
theorem by_1n {x : Int32} (h : ¬ x &&& 1 = 0) : x &&& 1 = 1 := by
  rcases by_1 x with q | q
  · exact absurd q h
  · exact q
/-- the sum of a row -/
def sN (r : Nat → Int32) : Nat → Int
  | 0 => 0
  | n + 1 => sN r n + (r n).toInt
theorem sN_cg {r r' : Nat → Int32} : ∀ n : Nat, (∀ j, j < n → r' j = r j) → sN r' n = sN r n := by
  intro n
  induction n with
  | zero => intro _; rfl
  | succ n ih =>
    intro h
    unfold sN
    rw [ih (fun j hj => h j (by omega)), h n (by omega)]
theorem sN_set {r r' : Nat → Int32} {p : Nat} : ∀ n : Nat, p < n → (∀ j, j < n → j ≠ p → r' j = r j) → sN r' n = sN r n + (r' p).toInt - (r p).toInt := by
  intro n
  induction n with
  | zero => intro h; omega
  | succ n ih =>
    intro hp h
    unfold sN
    by_cases e : p = n
    · subst e
      rw [sN_cg p (fun j hj => h j (by omega) (by omega))]
      omega
    · rw [ih (by omega) (fun j hj hq => h j (by omega) hq), h n (by omega) (by omega)]
      omega
theorem sN_b {r : Nat → Int32} : ∀ n : Nat, (∀ j, j < n → 0 ≤ (r j).toInt ∧ (r j).toInt ≤ 40) → 0 ≤ sN r n ∧ sN r n ≤ 40 * n := by
  intro n
  induction n with
  | zero => intro _; exact ⟨Int.le_refl _, by show (0 : Int) ≤ _; omega⟩
  | succ n ih =>
    intro h
    have a := ih (fun j hj => h j (by omega))
    have b := h n (by omega)
    unfold sN
    omega
theorem sN_le {r : Nat → Int32} {p : Nat} : ∀ n : Nat, p < n → (∀ j, j < n → 0 ≤ (r j).toInt ∧ (r j).toInt ≤ 40) → (r p).toInt ≤ sN r n := by
  intro n
  induction n with
  | zero => intro h; omega
  | succ n ih =>
    intro hp h
    have b := h n (by omega)
    have a := sN_b n (fun j hj => h j (by omega))
    unfold sN
    by_cases e : p = n
    · subst e
      omega
    · have := ih (by omega) (fun j hj => h j (by omega))
      omega
/-- the disk -/
def oD (c x : io_M) : Prop := (∀ f : Nat, f < 8 → c 89 f = x 112 f ∧ c 90 f = x 115 f ∧ c 91 f = x 113 f ∧ io_bl (x 112 f) ∧ (x 112 f = 0 → x 113 f = 0) ∧ (0 ≤ (x 113 f).toInt ∧ (x 113 f).toInt ≤ 40) ∧ ∀ i : Nat, (i : Int) < (x 113 f).toInt → c (80 + f) i = x 114 (40 * f + i) &&& 255) ∧ (c 88 4).toInt = sN (x 113) 8 ∧ (c 88 4).toInt ≤ 120
/-- the handles -/
def oH (c x : io_M) : Prop := c 101 2 = x 111 16 ∧ (0 ≤ (x 111 16).toInt ∧ (x 111 16).toInt ≤ 20) ∧ ∀ h : Nat, (h : Int) < (x 111 16).toInt → c h 4 = x 124 h ∧ c h 5 = x 125 h ∧ c h 6 = x 126 h ∧ c h 7 = x 127 h ∧ c h 3 = x 129 h ∧ c h 2 = x 130 h ∧ ∀ i : Nat, (i : Int) < (x 130 h).toInt → c (20 + h) i = x 131 (20 * h + i) &&& 255
/-- what is held is there -/
def oT (x : io_M) : Prop := ∀ h : Nat, (h : Int) < (x 111 16).toInt → (x 127 h = 0 ∨ x 127 h = 1 ∨ x 127 h = 2) ∧ (¬ x 127 h = 2 → x 112 (x 124 h).toNatClampNeg = 1)
/-- the lists -/
def oL (c x : io_M) : Prop := c 103 1 = x 111 28 ∧ (0 ≤ (x 111 28).toInt ∧ (x 111 28).toInt ≤ 20) ∧ ∀ l : Nat, (l : Int) < (x 111 28).toInt → c (40 + l) 1 = x 135 l ∧ c (40 + l) 2 = x 136 l ∧ (∀ i : Nat, (i : Int) < (x 136 l).toInt → c (20 + (40 + l)) i = x 137 (40 * l + i) &&& 255) ∧ (¬ x 138 l = 0 → x 127 (x 135 l).toNatClampNeg = 2)
/-- the order -/
def oJ (c x : io_M) : Prop := c 105 1 = x 111 33 ∧ ∀ i : Nat, i < 300 → (i : Int) < (x 111 33).toInt → c 106 i = x 139 i
/-- input and output -/
def oC (c x : io_M) : Prop := (c 93 2 = x 111 4 ∧ c 93 3 = x 111 5 ∧ c 93 4 = x 111 7) ∧ (∀ i : Nat, (i : Int) < (x 111 4).toInt → c 94 i = x 116 i &&& 255) ∧ ∀ i : Nat, i < 200 → (i : Int) < (x 111 7).toInt → c 95 i = x 117 i &&& 255
/-- the nodes -/
def oS (c x : io_M) : Prop := c 96 4 = x 111 9 ∧ ∀ n : Nat, (n : Int) < (x 111 9).toInt → c 97 n = x 118 n ∧ c 98 n = x 119 n ∧ c 99 n = x 120 n ∧ c 100 n = x 121 n
/-- the variables -/
def oV (c x : io_M) : Prop := ∀ j : Nat, j < 6 → c 108 j = x 122 j ∧ c 109 j = x 123 j ∧ (c 108 j = 0 ∨ c 108 j = 1 ∨ c 108 j = 2)
def oR (c x : io_M) : Prop := oD c x ∧ oH c x ∧ oT x ∧ oL c x ∧ oJ c x ∧ oC c x ∧ oS c x ∧ c 107 10 = x 111 35 ∧ (x 111 48 = 3 ∨ oV c x)
section EA
variable {c x c' x' : io_M}
theorem oD.cg (h : oD c x) (hc : ∀ k, 80 ≤ k → k ≤ 91 → c' k = c k) (hx : ∀ k, 112 ≤ k → k ≤ 115 → x' k = x k) : oD c' x' := by
  unfold oD
  rw [hc 88 (by omega) (by omega), hc 89 (by omega) (by omega), hc 90 (by omega) (by omega), hc 91 (by omega) (by omega), hx 112 (by omega) (by omega), hx 113 (by omega) (by omega), hx 114 (by omega) (by omega), hx 115 (by omega) (by omega)]
  refine ⟨fun f hf => ?_, h.2⟩
  rw [hc (80 + f) (by omega) (by omega)]
  exact h.1 f hf
theorem oD.set (h : oD c x) (f0 : Nat) (hf : f0 < 8) (h90 : c' 90 = c 90) (h115 : x' 115 = x 115) (hN : ∀ f, f < 8 → f ≠ f0 → c' 89 f = c 89 f ∧ c' 91 f = c 91 f ∧ c' (80 + f) = c (80 + f) ∧ x' 112 f = x 112 f ∧ x' 113 f = x 113 f ∧ ∀ i, i < 40 → x' 114 (40 * f + i) = x 114 (40 * f + i)) (h89 : c' 89 f0 = x' 112 f0) (h91 : c' 91 f0 = x' 113 f0) (hb : io_bl (x' 112 f0)) (h0 : x' 112 f0 = 0 → x' 113 f0 = 0) (hn : 0 ≤ (x' 113 f0).toInt ∧ (x' 113 f0).toInt ≤ 40) (hy : ∀ i : Nat, (i : Int) < (x' 113 f0).toInt → c' (80 + f0) i = x' 114 (40 * f0 + i) &&& 255) (hu : (c' 88 4).toInt = (c 88 4).toInt + (x' 113 f0).toInt - (x 113 f0).toInt) (hu2 : (c' 88 4).toInt ≤ 120) : oD c' x' := by
  refine ⟨fun f hf2 => ?_, ?_, hu2⟩
  · rw [h90, h115]
    obtain ⟨a1, a2, a3, a4, a5, a6, a7⟩ := h.1 f hf2
    by_cases e : f = f0
    · subst e
      exact ⟨h89, a2, h91, hb, h0, hn, hy⟩
    · obtain ⟨b1, b2, b3, b4, b5, b6⟩ := hN f hf2 e
      rw [b1, b2, b3, b4, b5]
      exact ⟨a1, a2, a3, a4, a5, a6, fun i hi => by rw [b6 i (by omega)]; exact a7 i hi⟩
  · rw [hu, h.2.1, sN_set 8 hf (fun j a b => (hN j a b).2.2.2.2.1)]
theorem oH.cg (h : oH c x) (hc : ∀ k, k < 40 → c' k = c k) (h101 : c' 101 2 = c 101 2) (h16 : x' 111 16 = x 111 16) (hx : ∀ k, (k = 124 ∨ k = 125 ∨ k = 126 ∨ k = 127 ∨ k = 129 ∨ k = 130 ∨ k = 131) → x' k = x k) : oH c' x' := by
  unfold oH
  rw [h101, h16, hx 124 (by omega), hx 125 (by omega), hx 126 (by omega), hx 127 (by omega), hx 129 (by omega), hx 130 (by omega), hx 131 (by omega)]
  obtain ⟨h1, h2, h3⟩ := h
  refine ⟨h1, h2, fun h hh => ?_⟩
  rw [hc h (by omega), hc (20 + h) (by omega)]
  exact h3 h hh
theorem oT.cg (h : oT x) (h16 : x' 111 16 = x 111 16) (hx : ∀ k, (k = 112 ∨ k = 124 ∨ k = 127) → x' k = x k) : oT x' := by
  unfold oT
  rw [h16, hx 112 (by omega), hx 124 (by omega), hx 127 (by omega)]
  exact h
theorem oL.cg (h : oL c x) (hc : ∀ k, 40 ≤ k → k < 80 → c' k = c k) (h103 : c' 103 1 = c 103 1) (h28 : x' 111 28 = x 111 28) (hx : ∀ k, (k = 127 ∨ k = 135 ∨ k = 136 ∨ k = 137 ∨ k = 138) → x' k = x k) : oL c' x' := by
  unfold oL
  rw [h103, h28, hx 127 (by omega), hx 135 (by omega), hx 136 (by omega), hx 137 (by omega), hx 138 (by omega)]
  obtain ⟨h1, h2, h3⟩ := h
  refine ⟨h1, h2, fun l hl => ?_⟩
  rw [hc (40 + l) (by omega) (by omega), hc (20 + (40 + l)) (by omega) (by omega)]
  exact h3 l hl
theorem oJ.cg (h : oJ c x) (h1 : c' 105 1 = c 105 1) (h2 : c' 106 = c 106) (h3 : x' 111 33 = x 111 33) (h4 : x' 139 = x 139) : oJ c' x' := by
  unfold oJ
  rw [h1, h2, h3, h4]
  exact h
theorem oC.cg (h : oC c x) (h1 : c' 93 = c 93) (h2 : c' 94 = c 94) (h3 : c' 95 = c 95) (hs : ∀ j, j < 8 → x' 111 j = x 111 j) (h4 : x' 116 = x 116) (h5 : x' 117 = x 117) : oC c' x' := by
  unfold oC
  rw [h1, h2, h3, h4, h5, hs 4 (by omega), hs 5 (by omega), hs 7 (by omega)]
  exact h
theorem oS.cg (h : oS c x) (hc : ∀ k, 96 ≤ k → k ≤ 100 → c' k = c k) (h9 : x' 111 9 = x 111 9) (hx : ∀ k, 118 ≤ k → k ≤ 121 → x' k = x k) : oS c' x' := by
  unfold oS
  rw [hc 96 (by omega) (by omega), hc 97 (by omega) (by omega), hc 98 (by omega) (by omega), hc 99 (by omega) (by omega), hc 100 (by omega) (by omega), h9, hx 118 (by omega) (by omega), hx 119 (by omega) (by omega), hx 120 (by omega) (by omega), hx 121 (by omega) (by omega)]
  exact h
theorem oV.cg (h : oV c x) (h1 : c' 108 = c 108) (h2 : c' 109 = c 109) (h3 : x' 122 = x 122) (h4 : x' 123 = x 123) : oV c' x' := by
  unfold oV
  rw [h1, h2, h3, h4]
  exact h
theorem oR.v (h : oR c x) (hg : ¬ x 111 48 = 3) : oV c x := by
  rcases h.2.2.2.2.2.2.2.2 with q | q
  · exact absurd q hg
  · exact q
/-- worker's own cells, the reference's top: nothing of what is alike -/
theorem oR.fr (h : oR c x) (hc : ∀ k, k < 110 → k ≠ 107 → c' k = c k) (h10 : c' 107 10 = c 107 10) (hx : ∀ k, 112 ≤ k → k < 140 → x' k = x k) (hs : ∀ j, j < 38 → x' 111 j = x 111 j) (hv : x' 111 48 = 3 ∨ oV c x) : oR c' x' := by
  obtain ⟨h1, h2, h3, h4, h5, h6, h7, h8, h9⟩ := h
  refine ⟨h1.cg (fun k a b => hc k (by omega) (by omega)) (fun k a b => hx k (by omega) (by omega)), h2.cg (fun k a => hc k (by omega) (by omega)) (by rw [hc 101 (by omega) (by omega)]) (hs 16 (by omega)) (fun k a => hx k (by omega) (by omega)), h3.cg (hs 16 (by omega)) (fun k a => hx k (by omega) (by omega)), h4.cg (fun k a b => hc k (by omega) (by omega)) (by rw [hc 103 (by omega) (by omega)]) (hs 28 (by omega)) (fun k a => hx k (by omega) (by omega)), h5.cg (by rw [hc 105 (by omega) (by omega)]) (hc 106 (by omega) (by omega)) (hs 33 (by omega)) (hx 139 (by omega) (by omega)), h6.cg (hc 93 (by omega) (by omega)) (hc 94 (by omega) (by omega)) (hc 95 (by omega) (by omega)) (fun j a => hs j (by omega)) (hx 116 (by omega) (by omega)) (hx 117 (by omega) (by omega)), h7.cg (fun k a b => hc k (by omega) (by omega)) (hs 9 (by omega)) (fun k a b => hx k (by omega) (by omega)), by rw [h10, hs 35 (by omega)]; exact h8, ?_⟩
  rcases hv with q | q
  · exact Or.inl q
  · exact Or.inr (q.cg (hc 108 (by omega) (by omega)) (hc 109 (by omega) (by omega)) (hx 122 (by omega) (by omega)) (hx 123 (by omega) (by omega)))
/-- disk, handles and buffers moved; the rest stays -/
theorem oR.dh (h : oR c x) (hg : ¬ x 111 48 = 3) (hF : io_F2 c c') (hx : ∀ k, k ≠ 112 → k ≠ 113 → k ≠ 114 → k ≠ 126 → k ≠ 129 → k ≠ 130 → k ≠ 131 → k ≠ 132 → k ≠ 133 → k ≠ 134 → x' k = x k) (hD : oD c' x') (hH : oH c' x') (hT : oT x') : oR c' x' := by
  have hv := h.v hg
  obtain ⟨h1, h2, h3, h4, h5, h6, h7, h8, h9⟩ := h
  have e : x' 111 = x 111 := hx 111 (by decide) (by decide) (by decide) (by decide) (by decide) (by decide) (by decide) (by decide) (by decide) (by decide)
  have g : ∀ k, 115 ≤ k → k ≤ 125 → x' k = x k := fun k a b => hx k (by omega) (by omega) (by omega) (by omega) (by omega) (by omega) (by omega) (by omega) (by omega) (by omega)
  have g2 : ∀ k, 135 ≤ k → x' k = x k := fun k a => hx k (by omega) (by omega) (by omega) (by omega) (by omega) (by omega) (by omega) (by omega) (by omega) (by omega)
  have e127 : x' 127 = x 127 := hx 127 (by decide) (by decide) (by decide) (by decide) (by decide) (by decide) (by decide) (by decide) (by decide) (by decide)
  refine ⟨hD, hH, hT, h4.cg hF.2.1 (by rw [hF.2.2 103 (by omega)]) (by rw [e]) (fun k a => ?_), h5.cg (by rw [hF.2.2 105 (by omega)]) (hF.2.2 106 (by omega)) (by rw [e]) (g2 139 (by omega)), h6.cg (hF.2.2 93 (by omega)) (hF.2.2 94 (by omega)) (hF.2.2 95 (by omega)) (fun j a => by rw [e]) (g 116 (by omega) (by omega)) (g 117 (by omega) (by omega)), h7.cg (fun k a b => hF.2.2 k (by omega)) (by rw [e]) (fun k a b => g k (by omega) (by omega)), by rw [hF.2.2 107 (by omega), e]; exact h8, Or.inr (hv.cg (hF.2.2 108 (by omega)) (hF.2.2 109 (by omega)) (g 122 (by omega) (by omega)) (g 123 (by omega) (by omega)))⟩
  rcases a with a | a | a | a | a
  · rw [a]; exact e127
  · exact g2 k (by omega)
  · exact g2 k (by omega)
  · exact g2 k (by omega)
  · exact g2 k (by omega)
end EA
