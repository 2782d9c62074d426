/-! the class works a node, and the reference alike -/
section EW
variable {K : io_M → Int32 → Int32 → (Int32 → io_M → Prop) → Prop} {b0 e lim : Int} {c c' c1 c2 x : io_M} {n a r p2 : Int32} {post : Int32 → io_M → Prop} {po : Option Nat → io_M → Prop}
theorem kq_bad (hq : (4 ≤ a.toInt ∧ a.toInt ≤ 14) ∨ a = 17 ∨ a = 20 ∨ a = 21 ∨ a = 22 ∨ a = 23 ∨ a = 25) : (4 ≤ a.toInt ∧ a.toInt ≤ 14) ∨ a = 17 ∨ (19 ≤ a.toInt ∧ a.toInt ≤ 23) ∨ a.toInt = 25 ∨ a = 28 := by
  rcases hq with q | q | q | q | q | q | q
  · exact Or.inl q
  · exact Or.inr (Or.inl q)
  · rw [q]; decide
  · rw [q]; decide
  · rw [q]; decide
  · rw [q]; decide
  · rw [q]; decide
theorem kq_good (hq : (4 ≤ a.toInt ∧ a.toInt ≤ 14) ∨ a = 17 ∨ a = 20 ∨ a = 21 ∨ a = 22 ∨ a = 23 ∨ a = 25) : (4 ≤ a.toInt ∧ a.toInt ≤ 14) ∨ a = 17 ∨ (19 ≤ a.toInt ∧ a.toInt ≤ 23) ∨ 25 ≤ a.toInt := by
  rcases hq with q | q | q | q | q | q | q
  · exact Or.inl q
  · exact Or.inr (Or.inl q)
  · rw [q]; decide
  · rw [q]; decide
  · rw [q]; decide
  · rw [q]; decide
  · rw [q]; decide
/-- a first part that must be a number -/
theorem kx_num1 (hK : kS b0 (e + 1) lim K) (hd : p2.toInt = e + 1) (he : 0 ≤ e ∧ e ≤ 59) (hl : lim ≤ e + 2) (hw : io_WI b0 (e + 1) c) (hn : io_nd c n) (hq : c 97 n.toNatClampNeg = 17 ∨ c 97 n.toNatClampNeg = 20 ∨ c 97 n.toNatClampNeg = 21 ∨ c 97 n.toNatClampNeg = 22 ∨ c 97 n.toNatClampNeg = 23 ∨ c 97 n.toNatClampNeg = 25) (ha : 0 ≤ (c 98 n.toNatClampNeg).toInt ∧ (c 98 n.toNatClampNeg).toInt < n.toNatClampNeg) (h0 : ∀ c1, io_WI b0 e c1 → io_Fr c c1 → nS b0 e c n 0 c1 → post 0 c1) (h1 : ∀ c1, io_WI b0 (e + 1) c1 → io_Fr c c1 → c1 107 7 = 0 → (∀ r c', mS b0 e c1 n F1 r c' → nS b0 e c n r c') → post 1 c1) : wp_X8_workToNumber K c (c 98 n.toNatClampNeg) n p2 post := by
  refine kx_call hK hd he hl hw (nd_lt hn ha) (fun r1 c1 a b hS => ⟨fun hr0 => h0 c1 (a.le (by omega)) b ?_, fun hr1 => ?_⟩)
  · rw [hr0] at hS
    exact nS_bad hn (kq_bad (Or.inr hq)) ha hS
  · have hS := hS.one hr1
    have good : ∀ r c', mS b0 e c1 n F1 r c' → nS b0 e c n r c' := fun r c' hM => nS_good hn (kq_good (Or.inr hq)) ha hS hM
    refine ⟨fun q => h1 c1 a b q good, fun q => xa_fail (a.le (by omega)) (fun a2 b2 => ⟨fun _ => h0 _ a2 (b.tr b2) (good _ _ (mS_1f (w := 0) (fun x hR => Or.inr ⟨rfl, ?_⟩) q)), fun z => absurd rfl z⟩)⟩
    rw [← (nd_s hR (hn.of b)).1, b.2.1 97 (by omega) (by omega)]
    exact hq
/-- a first part that must be a handle -/
theorem kx_hand1 (hK : kS b0 (e + 1) lim K) (hd : p2.toInt = e + 1) (he : 0 ≤ e ∧ e ≤ 59) (hl : lim ≤ e + 2) (hw : io_WI b0 (e + 1) c) (hn : io_nd c n) (hq : 4 ≤ (c 97 n.toNatClampNeg).toInt ∧ (c 97 n.toNatClampNeg).toInt ≤ 14) (h8 : ¬ c 97 n.toNatClampNeg = 8) (h9 : ¬ c 97 n.toNatClampNeg = 9) (ha : 0 ≤ (c 98 n.toNatClampNeg).toInt ∧ (c 98 n.toNatClampNeg).toInt < n.toNatClampNeg) (h0 : ∀ c1, io_WI b0 e c1 → io_Fr c c1 → nS b0 e c n 0 c1 → po none c1) (h1 : ∀ c1, io_WI b0 (e + 1) c1 → io_Fr c c1 → c1 107 7 = 1 → (c1 107 8).toNatClampNeg < 20 → (∀ r c', mS b0 e c1 n F1 r c' → nS b0 e c n r c') → po (some (c1 107 8).toNatClampNeg) c1) : wp_X8_workToHandle K c (c 98 n.toNatClampNeg) n p2 po := by
  refine kx_call hK hd he hl hw (nd_lt hn ha) (fun r1 c1 a b hS => ⟨fun hr0 => h0 c1 (a.le (by omega)) b ?_, fun hr1 => ?_⟩)
  · rw [hr0] at hS
    exact nS_bad hn (Or.inl hq) ha hS
  · have hS := hS.one hr1
    have good : ∀ r c', mS b0 e c1 n F1 r c' → nS b0 e c n r c' := fun r c' hM => nS_good hn (Or.inl hq) ha hS hM
    have hc := CI_hc a.1
    refine ⟨fun q => sp_within (fun w => ⟨fun _ => ⟨fun _ => xa_fail (a.le (by omega)) (fun a2 b2 => h0 _ a2 (b.tr b2) (good _ _ ?_)), fun i z => by cases z⟩, fun z => absurd rfl z⟩) (fun w => ⟨fun z => absurd z (by decide), fun _ => ⟨pz_in.mpr ⟨w.1, by show (c1 107 8).toInt < 20; omega⟩, ⟨fun z => (by cases z), fun i z => ?_⟩⟩⟩), fun q => xa_fail (a.le (by omega)) (fun a2 b2 => h0 _ a2 (b.tr b2) (good _ _ (mS_1f (w := 1) (fun x hR => Or.inl ?_) q)))⟩
    · intro P x0 x pv hP hF hR hO ho hF1 hK
      have g := hO.g0
      have tt := (ho.tt g.1).1 (by rw [← g.2.1]; exact q)
      rw [← g.2.2.1, ← hR.2.1.1] at tt
      exact absurd tt w
    · cases z
      exact h1 c1 a b q (by rw [pz_cl]; omega) good
    · rw [← (nd_s hR (hn.of b)).1, b.2.1 97 (by omega) (by omega), if_neg h8, if_neg h9]
      exact ⟨hq, rfl⟩
/-- a first part that must be a list -/
theorem kx_list1 (hK : kS b0 (e + 1) lim K) (hd : p2.toInt = e + 1) (he : 0 ≤ e ∧ e ≤ 59) (hl : lim ≤ e + 2) (hw : io_WI b0 (e + 1) c) (hn : io_nd c n) (hq : c 97 n.toNatClampNeg = 8 ∨ c 97 n.toNatClampNeg = 9) (ha : 0 ≤ (c 98 n.toNatClampNeg).toInt ∧ (c 98 n.toNatClampNeg).toInt < n.toNatClampNeg) (h0 : ∀ c1, io_WI b0 e c1 → io_Fr c c1 → nS b0 e c n 0 c1 → po none c1) (h1 : ∀ c1, io_WI b0 (e + 1) c1 → io_Fr c c1 → c1 107 7 = 2 → (c1 107 8).toNatClampNeg < 20 → (∀ r c', mS b0 e c1 n F1 r c' → nS b0 e c n r c') → po (some (c1 107 8).toNatClampNeg) c1) : wp_X8_workToList K c (c 98 n.toNatClampNeg) n p2 po := by
  have hq4 : 4 ≤ (c 97 n.toNatClampNeg).toInt ∧ (c 97 n.toNatClampNeg).toInt ≤ 14 := by rcases hq with q | q <;> rw [q] <;> decide
  refine kx_call hK hd he hl hw (nd_lt hn ha) (fun r1 c1 a b hS => ⟨fun hr0 => h0 c1 (a.le (by omega)) b ?_, fun hr1 => ?_⟩)
  · rw [hr0] at hS
    exact nS_bad hn (Or.inl hq4) ha hS
  · have hS := hS.one hr1
    have good : ∀ r c', mS b0 e c1 n F1 r c' → nS b0 e c n r c' := fun r c' hM => nS_good hn (Or.inl hq4) ha hS hM
    have hc := CI_lc a.1
    refine ⟨fun q => sp_within (fun w => ⟨fun _ => ⟨fun _ => xa_fail (a.le (by omega)) (fun a2 b2 => h0 _ a2 (b.tr b2) (good _ _ ?_)), fun i z => by cases z⟩, fun z => absurd rfl z⟩) (fun w => ⟨fun z => absurd z (by decide), fun _ => ⟨pz_in.mpr ⟨w.1, by show (c1 107 8).toInt < 20; omega⟩, ⟨fun z => (by cases z), fun i z => ?_⟩⟩⟩), fun q => xa_fail (a.le (by omega)) (fun a2 b2 => h0 _ a2 (b.tr b2) (good _ _ (mS_1f (w := 2) (fun x hR => Or.inl ?_) q)))⟩
    · intro P x0 x pv hP hF hR hO ho hF1 hK
      have g := hO.g0
      have tt := (ho.tt g.1).2 (by rw [← g.2.1]; exact q)
      rw [← g.2.2.1, ← hR.2.2.2.1.1] at tt
      exact absurd tt w
    · cases z
      exact h1 c1 a b q (by rw [pz_cl]; omega) good
    · rw [← (nd_s hR (hn.of b)).1, b.2.1 97 (by omega) (by omega)]
      refine ⟨hq4, ?_⟩
      rcases hq with z | z
      · rw [if_pos z]
      · rw [if_neg (by rw [z]; decide), if_pos z]
/-- a second part, a number -/
theorem kx_num2 (hK : kS b0 (e + 1) lim K) (hd : p2.toInt = e + 1) (he : 0 ≤ e ∧ e ≤ 59) (hl : lim ≤ e + 2) (hw : io_WI b0 (e + 1) c) (hn : io_nd c n) (hq : ((c 97 n.toNatClampNeg = 5 ∨ c 97 n.toNatClampNeg = 10) ∧ c 107 7 = 1) ∨ (c 97 n.toNatClampNeg = 8 ∧ c 107 7 = 2) ∨ ((c 97 n.toNatClampNeg = 21 ∨ c 97 n.toNatClampNeg = 22) ∧ c 107 7 = 0)) (hb : 0 ≤ (c 99 n.toNatClampNeg).toInt ∧ (c 99 n.toNatClampNeg).toInt < n.toNatClampNeg) (h0 : ∀ c2, io_WI b0 e c2 → io_Fr c c2 → mS b0 e c n F1 0 c2 → post 0 c2) (h1 : ∀ c2, io_WI b0 (e + 1) c2 → io_Fr c c2 → c2 107 7 = 0 → (∀ r c', mS b0 e c2 n (F2 (c 107 8) (c 107 7)) r c' → mS b0 e c n F1 r c') → post 1 c2) : wp_X8_workToNumber K c (c 99 n.toNatClampNeg) n p2 post := by
  have hk : ∀ x, oR c x → (((x 118 n.toNatClampNeg = 5 ∨ x 118 n.toNatClampNeg = 10) ∧ c 107 7 = 1) ∨ (x 118 n.toNatClampNeg = 8 ∧ c 107 7 = 2) ∨ ((x 118 n.toNatClampNeg = 21 ∨ x 118 n.toNatClampNeg = 22) ∧ c 107 7 = 0)) ∧ x 120 n.toNatClampNeg = c 99 n.toNatClampNeg := by
    intro x hR
    obtain ⟨s97, s98, s99, s100⟩ := nd_s hR hn
    rw [← s97, ← s99]
    exact ⟨hq, rfl⟩
  refine kx_call hK hd he hl hw (nd_lt hn hb) (fun r1 c1 a b hS => ⟨fun hr0 => h0 c1 (a.le (by omega)) b ?_, fun hr1 => ?_⟩)
  · rw [hr0] at hS
    exact mS_2bad hk hb hS
  · have hS := hS.one hr1
    have good : ∀ r c', mS b0 e c1 n (F2 (c 107 8) (c 107 7)) r c' → mS b0 e c n F1 r c' := fun r c' hM => mS_2good hk hb hS hM
    refine ⟨fun q => h1 c1 a b q good, fun q => xa_fail (a.le (by omega)) (fun a2 b2 => ⟨fun _ => h0 _ a2 (b.tr b2) (good _ _ (mS_2f (fun x hR => ?_) q)), fun z => absurd rfl z⟩)⟩
    rw [← (nd_s hR (hn.of b)).1, b.2.1 97 (by omega) (by omega)]
    rcases hq with ⟨z | z, _⟩ | ⟨z, _⟩ | ⟨z | z, _⟩
    · exact Or.inl z
    · exact Or.inr (Or.inr (Or.inl z))
    · exact Or.inr (Or.inl z)
    · exact Or.inr (Or.inr (Or.inr (Or.inl z)))
    · exact Or.inr (Or.inr (Or.inr (Or.inr z)))
theorem kx_two (hK : kS b0 (e + 1) lim K) (hd : p2.toInt = e + 1) (he : 0 ≤ e ∧ e ≤ 59) (hl : lim ≤ e + 2) (hw : io_WI b0 (e + 1) c) (hn : io_nd c n) (hq : c 97 n.toNatClampNeg = 21 ∨ c 97 n.toNatClampNeg = 22) (ha : 0 ≤ (c 98 n.toNatClampNeg).toInt ∧ (c 98 n.toNatClampNeg).toInt < n.toNatClampNeg) (hb : 0 ≤ (c 99 n.toNatClampNeg).toInt ∧ (c 99 n.toNatClampNeg).toInt < n.toNatClampNeg) (hp : ∀ r c', io_WI b0 e c' → io_Fr c c' → nS b0 e c n r c' → post r c') : wp_X8_workTwoNumbers K c n p2 post := by
  refine ⟨hn.in hw.2.1, kx_num1 hK hd he hl hw hn (by rcases hq with q | q <;> rw [q] <;> decide) ha (fun c1 a b hS => ⟨fun _ => hp _ _ a b hS, fun z => absurd rfl z⟩) (fun c1 a b h7 hM => ⟨fun z => absurd z (by decide), fun _ => ⟨(hn.of b).in a.2.1, ?_⟩⟩)⟩
  have hn1 := hn.of b
  have e97 : c1 97 = c 97 := b.2.1 97 (by omega) (by omega)
  have e99 : c1 99 = c 99 := b.2.1 99 (by omega) (by omega)
  refine kx_num2 hK hd he hl a hn1 (Or.inr (Or.inr ⟨by rw [e97]; exact hq, h7⟩)) (by rw [e99]; exact hb) (fun c2 a2 b2 hS2 => ⟨fun _ => hp _ _ a2 (b.tr b2) (hM _ _ hS2), fun z => absurd rfl z⟩) (fun c2 a2 b2 h72 hM2 => ⟨fun z => absurd z (by decide), fun _ => ⟨(hn1.of b2).in a2.2.1, ?_⟩⟩)
  have hn2 := hn1.of b2
  have e97' : c2 97 n.toNatClampNeg = c 97 n.toNatClampNeg := by rw [b2.2.1 97 (by omega) (by omega), e97]
  have hq2 : c2 97 n.toNatClampNeg = 21 ∨ c2 97 n.toNatClampNeg = 22 := by rw [e97']; exact hq
  have fin : ∀ y : Int32, ((c2 97 n.toNatClampNeg = 22 ∧ y = c1 107 8 + c2 107 8) ∨ (c2 97 n.toNatClampNeg = 21 ∧ ((c2 107 8 ≤ c1 107 8 ∧ y = 0) ∨ (¬ c2 107 8 ≤ c1 107 8 ∧ y = 1)))) → wp_X8_give c2 0 y post := fun y hy => xa_give (a2.le (by omega)) (fun a3 b3 => hp _ _ a3 ((b.tr b2).tr b3) (hM _ _ (hM2 _ _ (mS_2n hn2 hq2 h72 hy))))
  refine ⟨fun q => ⟨fun z => fin 0 (Or.inr ⟨q, Or.inl ⟨z, rfl⟩⟩), fun z => fin 1 (Or.inr ⟨q, Or.inr ⟨z, rfl⟩⟩)⟩, fun q => fin _ (Or.inl ⟨?_, rfl⟩)⟩
  rcases hq2 with z | z
  · exact absurd z q
  · exact z
theorem kx_numFirst (hb0 : b0 ≤ 1000000) (hK : kS b0 (e + 1) lim K) (hd : p2.toInt = e + 1) (he : 0 ≤ e ∧ e ≤ 59) (hl : lim ≤ e + 2) (hw : io_WI b0 (e + 1) c) (hn : io_nd c n) (hq : c 97 n.toNatClampNeg = 17 ∨ c 97 n.toNatClampNeg = 20 ∨ c 97 n.toNatClampNeg = 23 ∨ c 97 n.toNatClampNeg = 25) (ha : 0 ≤ (c 98 n.toNatClampNeg).toInt ∧ (c 98 n.toNatClampNeg).toInt < n.toNatClampNeg) (hb : ¬ c 97 n.toNatClampNeg = 17 → ¬ c 97 n.toNatClampNeg = 25 → 0 ≤ (c 99 n.toNatClampNeg).toInt ∧ (c 99 n.toNatClampNeg).toInt < n.toNatClampNeg) (hc : c 97 n.toNatClampNeg = 20 → 0 ≤ (c 100 n.toNatClampNeg).toInt ∧ (c 100 n.toNatClampNeg).toInt < n.toNatClampNeg) (hp : ∀ r c', io_WI b0 e c' → io_Fr c c' → nS b0 e c n r c' → post r c') : wp_X8_workNumberFirst K c n p2 post := by
  refine ⟨hn.in hw.2.1, kx_num1 hK hd he hl hw hn (by rcases hq with q | q | q | q <;> rw [q] <;> decide) ha (fun c1 a b hS => ⟨fun _ => hp _ _ a b hS, fun z => absurd rfl z⟩) (fun c1 a b h7 hM => ⟨fun z => absurd z (by decide), fun _ => ⟨(hn.of b).in a.2.1, ?_⟩⟩)⟩
  have hn1 := hn.of b
  have hin1 := hn1.in a.2.1
  have e97 : c1 97 = c 97 := b.2.1 97 (by omega) (by omega)
  have e99 : c1 99 = c 99 := b.2.1 99 (by omega) (by omega)
  have e100 : c1 100 = c 100 := b.2.1 100 (by omega) (by omega)
  rw [← e97] at hq hb hc
  rw [← e99] at hb
  rw [← e100] at hc
  refine ⟨fun q => xd_print hb0 a he.1 (fun r c' a2 b2 hS => hp _ _ a2 (b.tr b2) (hM _ _ (mS_print hb0 hn1 q h7 hS))), fun q17 => ⟨fun q => ⟨fun z => ⟨hin1, ?_⟩, fun z => ⟨hin1, ?_⟩⟩, fun q20 => ⟨fun q s29 e29 => ?_, fun q25 => ⟨hin1, ?_⟩⟩⟩⟩
  · exact kx_call hK hd he hl a (nd_lt hn1 (hc q)) (fun r c' a2 b2 hS => hp _ _ (a2.le (by omega)) (b.tr b2) (hM _ _ (mS_q hn1 (Or.inr ⟨q, h7, Or.inl ⟨z, rfl⟩⟩) (hc q) hS)))
  · exact kx_call hK hd he hl a (nd_lt hn1 (hb q17 (by rw [q]; decide))) (fun r c' a2 b2 hS => hp _ _ (a2.le (by omega)) (b.tr b2) (hM _ _ (mS_q hn1 (Or.inr ⟨q, h7, Or.inr ⟨z, rfl⟩⟩) (hb q17 (by rw [q]; decide)) hS)))
  · have hw29 : io_WI b0 e s29 := by rw [e29]; exact (a.w (by omega)).le (by omega)
    have hF29 : io_Fr c s29 := by rw [e29]; exact b.up (by omega)
    refine hp _ _ hw29 hF29 (hM _ _ ?_)
    rw [e29]
    exact mS_exit hn1 q h7
  · have q23 : c1 97 n.toNatClampNeg = 23 := by
      rcases hq with z | z | z | z
      · exact absurd z q17
      · exact absurd z q20
      · exact z
      · exact absurd z q25
    have z600 := l_600
    have z0 := l_0
    refine ⟨601, kx_timesL (tm := c1 107 8) hK hd he hl ?_ 601 c1 0 _ a hn1 q23 (hb q17 q25) (by omega) (by omega) (fun z => by omega) (by omega) (fun r c' a2 b2 hz => hp _ _ a2 (b.tr b2) (hM _ _ (mS_times hn1 q23 h7 ?_ (fun x hR => ?_))))⟩
    · by_cases t : 600 < c1 107 8
      · rw [if_pos t]; have := pz_lt.mp t; omega
      · rw [if_neg t]; have := pz_nlt t; omega
    · rw [z0] at hz
      have : (c1 107 8).toInt - 0 = (c1 107 8).toInt := by omega
      rw [this] at hz
      exact hz
    · rw [← hR.2.2.2.2.2.2.2.1]
      have g := a.2.2
      unfold io_Bd at g
      omega
end EW
