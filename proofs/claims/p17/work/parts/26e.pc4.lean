section PK
variable {K : io_M → Int32 → Int32 → (Int32 → io_M → Prop) → Prop} {σ : io_M} {p1 p2 p3 q1 x : Int32} {post : Int32 → io_M → Prop} {pv : io_M → Prop} {po : Option Nat → io_M → Prop} {b0 e lim : Int}
theorem sk_call (hK : io_KS b0 (e + 1) lim K) (hd : p2.toInt = e + 1) (he : 0 ≤ e ∧ e ≤ 59) (hl : lim ≤ e + 2) (hw : io_WI b0 (e + 1) σ) (hn : io_nd σ q1) (hp : ∀ r σ', io_WI b0 (e + 1) σ' → io_Fr σ σ' → post r σ') : K σ q1 (p2 + 1) post := by
  have h1 : (p2 + 1).toInt = e + 1 + 1 := by rw [pz_1 (by omega), hd]
  exact hK σ q1 (p2 + 1) post h1 (by omega) (by omega) hw hn hp
theorem sk_toNumber (hK : io_KS b0 (e + 1) lim K) (hd : p3.toInt = e + 1) (he : 0 ≤ e ∧ e ≤ 59) (hl : lim ≤ e + 2) (hw : io_WI b0 (e + 1) σ) (hn : io_nd σ q1) (hp : ∀ r σ', io_WI b0 (e + 1) σ' → io_Fr σ σ' → post r σ') : wp_X8_workToNumber K σ q1 x p3 post :=
  sk_call hK hd he hl hw hn (fun r s a b => ⟨fun _ => hp _ _ a b, fun _ => ⟨fun _ => hp _ _ a b, fun _ => sp_fail a (fun s2 a2 b2 => ⟨fun _ => hp _ _ a2 (b.tr b2), fun _ => hp _ _ a2 (b.tr b2)⟩)⟩⟩)
theorem sk_toHandle (hK : io_KS b0 (e + 1) lim K) (hd : p3.toInt = e + 1) (he : 0 ≤ e ∧ e ≤ 59) (hl : lim ≤ e + 2) (hw : io_WI b0 (e + 1) σ) (hn : io_nd σ q1) (h0 : ∀ σ', io_WI b0 (e + 1) σ' → io_Fr σ σ' → po none σ') (h1 : ∀ i σ', i < 20 → io_WI b0 (e + 1) σ' → io_Fr σ σ' → po (some i) σ') : wp_X8_workToHandle K σ q1 x p3 po :=
  sk_call hK hd he hl hw hn (fun r s a b => ⟨fun _ => h0 _ a b, fun _ => ⟨fun _ => sp_hpick a.1 ⟨fun _ => sp_fail a (fun s2 a2 b2 => h0 _ a2 (b.tr b2)), fun i q => (by cases q)⟩ (fun i hi => ⟨fun q => (by cases q), fun i2 q => by cases q; exact h1 _ _ hi a b⟩), fun _ => sp_fail a (fun s2 a2 b2 => h0 _ a2 (b.tr b2))⟩⟩)
theorem sk_toList (hK : io_KS b0 (e + 1) lim K) (hd : p3.toInt = e + 1) (he : 0 ≤ e ∧ e ≤ 59) (hl : lim ≤ e + 2) (hw : io_WI b0 (e + 1) σ) (hn : io_nd σ q1) (h0 : ∀ σ', io_WI b0 (e + 1) σ' → io_Fr σ σ' → po none σ') (h1 : ∀ i σ', i < 20 → io_WI b0 (e + 1) σ' → io_Fr σ σ' → po (some i) σ') : wp_X8_workToList K σ q1 x p3 po :=
  sk_call hK hd he hl hw hn (fun r s a b => ⟨fun _ => h0 _ a b, fun _ => ⟨fun _ => sp_lpick a.1 ⟨fun _ => sp_fail a (fun s2 a2 b2 => h0 _ a2 (b.tr b2)), fun i q => (by cases q)⟩ (fun i hi => ⟨fun q => (by cases q), fun i2 q => by cases q; exact h1 _ _ hi a b⟩), fun _ => sp_fail a (fun s2 a2 b2 => h0 _ a2 (b.tr b2))⟩⟩)
theorem sk_noteClosing {k : Nat} (he : 0 ≤ e) (hw : io_WI b0 (e + 1) σ) (hp : ∀ σ', io_WI b0 e σ' → io_Fr σ σ' → pv σ') : wp_X8_noteClosing σ x k pv := ⟨fun _ => ⟨fun q => absurd q (by decide), fun _ => hp _ (hw.le (by omega)) io_Fr.rf⟩, fun _ => ⟨fun _ => sp_note hw he hp, fun q => absurd rfl q⟩⟩
theorem sk_handle (hK : io_KS b0 (e + 1) lim K) (hd : p2.toInt = e + 1) (he : 0 ≤ e ∧ e ≤ 59) (hl : lim ≤ e + 2) (hw : io_WI b0 (e + 1) σ) (hn : io_nd σ p1) (ha : io_nd σ (σ 98 p1.toNatClampNeg)) (hp : ∀ r σ', io_WI b0 e σ' → io_Fr σ σ' → post r σ') : wp_X8_workHandle K σ p1 p2 post := by
  refine ⟨hn.in hw.2.1, sk_toHandle hK hd he hl hw ha (fun s a b => ⟨fun _ => hp _ _ (a.le (by omega)) b, fun i q => (by cases q)⟩) (fun i s hi a b => ⟨fun q => (by cases q), fun i2 q => ?_⟩)⟩
  cases q
  have hin := (hn.of b).in a.2.1
  refine ⟨hin, fun _ => sk_noteClosing he.1 a (fun s2 a2 b2 => sp_close hi a2.1 (fun r s3 hC hF => sp_settle (a2.f3 hC hF.to3) (fun r s4 a4 b4 => hp _ _ a4 (((b.tr b2).tr hF.to3.toR).tr b4)))), fun _ => ⟨fun _ => sp_take hi a.1 (fun r s3 hC hF => sp_act (a.f3 hC hF.to3) he.1 (fun r s4 a4 b4 => hp _ _ a4 ((b.tr hF.to3.toR).tr b4))), fun _ => ⟨fun _ => sp_lbegin hi a.1 (fun r s3 hC hF => sp_settle ((a.f3 hC hF).le (by omega)) (fun r s4 a4 b4 => hp _ _ a4 ((b.tr hF.toR).tr b4))), fun _ => ⟨fun _ => sp_tellPlace (fun r => sp_settle (a.le (by omega)) (fun r s4 a4 b4 => hp _ _ a4 (b.tr b4))), fun _ => ⟨fun _ => sp_measure hi a.1 (fun r s3 hC hF => sp_settle ((a.f3 hC hF.to3).le (by omega)) (fun r s4 a4 b4 => hp _ _ a4 ((b.tr hF.to3.toR).tr b4))), fun _ => ⟨fun _ => ⟨hin, sp_changeBuffer hi a.1 (fun r s3 hC hF => sp_act (a.f3 hC hF.to3) he.1 (fun r s4 a4 b4 => hp _ _ a4 ((b.tr hF.to3.toR).tr b4)))⟩, fun _ => sp_flush hi a.1 (fun r s3 hC hF => sp_act (a.f3 hC hF.to3) he.1 (fun r s4 a4 b4 => hp _ _ a4 ((b.tr hF.to3.toR).tr b4)))⟩⟩⟩⟩⟩⟩
theorem sk_handleNum (hK : io_KS b0 (e + 1) lim K) (hd : p2.toInt = e + 1) (he : 0 ≤ e ∧ e ≤ 59) (hl : lim ≤ e + 2) (hw : io_WI b0 (e + 1) σ) (hn : io_nd σ p1) (ha : io_nd σ (σ 98 p1.toNatClampNeg)) (hb : io_nd σ (σ 99 p1.toNatClampNeg)) (hp : ∀ r σ', io_WI b0 e σ' → io_Fr σ σ' → post r σ') : wp_X8_workHandleAndNumber K σ p1 p2 post := by
  refine ⟨hn.in hw.2.1, sk_toHandle hK hd he hl hw ha (fun s a b => ⟨fun _ => hp _ _ (a.le (by omega)) b, fun i q => (by cases q)⟩) (fun i s hi a b => ⟨fun q => (by cases q), fun i2 q => ?_⟩)⟩
  cases q
  refine ⟨(hn.of b).in a.2.1, sk_toNumber hK hd he hl a (by rw [b.2.1 99 (by omega) (by omega)]; exact hb.of b) (fun r s2 a2 b2 => ⟨fun _ => hp _ _ (a2.le (by omega)) (b.tr b2), fun _ => ⟨((hn.of b).of b2).in a2.2.1, fun _ => sp_put hi a2.1 (fun r s3 hC hF => sp_act (a2.f3 hC hF.to3) he.1 (fun r s4 a4 b4 => hp _ _ a4 (((b.tr b2).tr hF.to3.toR).tr b4))), fun _ => sp_seek hi a2.1 (fun r s3 hC hF => sp_act (a2.f3 hC hF.to3) he.1 (fun r s4 a4 b4 => hp _ _ a4 (((b.tr b2).tr hF.to3.toR).tr b4)))⟩⟩)⟩
theorem sk_item (hK : io_KS b0 (e + 1) lim K) (hd : p2.toInt = e + 1) (he : 0 ≤ e ∧ e ≤ 59) (hl : lim ≤ e + 2) (hw : io_WI b0 (e + 1) σ) (hn : io_nd σ p1) (ha : io_nd σ (σ 98 p1.toNatClampNeg)) (hb : io_nd σ (σ 99 p1.toNatClampNeg)) (hp : ∀ r σ', io_WI b0 e σ' → io_Fr σ σ' → post r σ') : wp_X8_workItem K σ p1 p2 post := by
  refine ⟨hn.in hw.2.1, sk_toList hK hd he hl hw ha (fun s a b => ⟨fun _ => hp _ _ (a.le (by omega)) b, fun i q => (by cases q)⟩) (fun i s hi a b => ⟨fun q => (by cases q), fun i2 q => ?_⟩)⟩
  cases q
  refine ⟨(hn.of b).in a.2.1, sk_toNumber hK hd he hl a (by rw [b.2.1 99 (by omega) (by omega)]; exact hb.of b) (fun r s2 a2 b2 => ⟨fun _ => hp _ _ (a2.le (by omega)) (b.tr b2), fun _ => ⟨fun _ => sp_reach hi a2.1 (fun r s3 hC hF h0 h40 => sp_noteTimes (a2.f3 hC hF.to3) he.1 h40 (fun s4 a4 b4 => sp_item hi a4.1 (fun r => sp_give a4 (fun s5 a5 b5 => hp _ _ a5 ((((b.tr b2).tr hF.to3.toR).tr b4).tr b5))))), fun _ => sp_fail a2 (fun s3 a3 b3 => hp _ _ (a3.le (by omega)) ((b.tr b2).tr b3))⟩⟩)⟩
theorem sk_length (hK : io_KS b0 (e + 1) lim K) (hd : p2.toInt = e + 1) (he : 0 ≤ e ∧ e ≤ 59) (hl : lim ≤ e + 2) (hw : io_WI b0 (e + 1) σ) (hn : io_nd σ p1) (ha : io_nd σ (σ 98 p1.toNatClampNeg)) (hp : ∀ r σ', io_WI b0 e σ' → io_Fr σ σ' → post r σ') : wp_X8_workLength K σ p1 p2 post := by
  refine ⟨hn.in hw.2.1, sk_toList hK hd he hl hw ha (fun s a b => ⟨fun _ => hp _ _ (a.le (by omega)) b, fun i q => (by cases q)⟩) (fun i s hi a b => ⟨fun q => (by cases q), fun i2 q => ?_⟩)⟩
  cases q
  exact sp_reach hi a.1 (fun r s3 hC hF h0 h40 => sp_noteTimes (a.f3 hC hF.to3) he.1 h40 (fun s4 a4 b4 => sp_give a4 (fun s5 a5 b5 => hp _ _ a5 (((b.tr hF.to3.toR).tr b4).tr b5))))
theorem sp_readByte (hC : io_CI σ) (hp : ∀ r σ', io_CI σ' → io_Fr σ σ' → (∀ k, k ≠ 93 → σ' k = σ k) → σ' 93 4 = σ 93 4 → post r σ') : wp_X0_readByte σ post := by
  have h1 := CI_come hC
  have h2 := CI_gone hC
  refine ⟨fun c => ⟨pz_in.mpr ⟨h2.1, ?_⟩, fun s1 e1 => ?_⟩, fun _ => hp _ _ hC io_Fr.rf (fun _ _ => rfl) rfl⟩
  · have := pz_lt.mp c
    show (σ 93 3).toInt < 100
    omega
  · have hc := pz_lt.mp c
    subst e1
    refine hp _ _ (hC.up ?_) (io_Fr.rf.up (by omega)) (fun k hk => by rw [pu_ne hk]) (by rw [pu_same (by decide)])
    exact ⟨fun q => by omega, fun _ => by rw [pz_1 (by omega)]; omega⟩
theorem io_WI.c {σ' : io_M} (h : io_WI b0 e σ) (hC : io_CI σ') (hF : io_Fr σ σ') (hk : ∀ k, k ≠ 93 → σ' k = σ k) (h4 : σ' 93 4 = σ 93 4) : io_WI b0 e σ' := ⟨hC, h.2.1.of hF, h.2.2.of (by rw [hk 107 (by decide)]) (by rw [hk 105 (by decide)]) h4⟩
theorem sk_alone (he : 0 ≤ e) (hw : io_WI b0 (e + 1) σ) (hn : io_nd σ p1) (h3 : σ 97 p1.toNatClampNeg = 3 → 0 ≤ (σ 98 p1.toNatClampNeg).toInt ∧ (σ 98 p1.toNatClampNeg).toInt < 8) (h15 : σ 97 p1.toNatClampNeg = 15 → 0 ≤ (σ 98 p1.toNatClampNeg).toInt ∧ (σ 98 p1.toNatClampNeg).toInt < 8) (h16 : σ 97 p1.toNatClampNeg = 16 → (0 ≤ (σ 98 p1.toNatClampNeg).toInt ∧ (σ 98 p1.toNatClampNeg).toInt < 8) ∧ 0 ≤ (σ 99 p1.toNatClampNeg).toInt ∧ (σ 99 p1.toNatClampNeg).toInt < 8) (hp : ∀ r σ', io_WI b0 e σ' → io_Fr σ σ' → post r σ') : wp_X8_actAlone σ p1 post := by
  have hin := hn.in hw.2.1
  refine ⟨hin, hin, hin, fun c => sp_open hw.1 (h3 c) (fun r s hC hF => sp_act (hw.f3 hC hF) he (fun r s4 a4 b4 => hp _ _ a4 (hF.toR.tr b4))), fun _ => ⟨fun c => sp_removeFile hw.1 (h15 c) (fun r s hC hF => sp_act (hw.f3 hC hF) he (fun r s4 a4 b4 => hp _ _ a4 (hF.toR.tr b4))), fun _ => ⟨fun c => sp_renameFile hw.1 (h16 c).1 (h16 c).2 (fun r s hC hF => ⟨fun _ => sp_settle ((hw.f3 hC hF).le (by omega)) (fun r s4 a4 b4 => hp _ _ a4 (hF.toR.tr b4)), fun _ => sp_act (hw.f3 hC hF) he (fun r s4 a4 b4 => hp _ _ a4 (hF.toR.tr b4))⟩), fun _ => sp_readByte hw.1 (fun r s hC hF hk h4 => sp_act (hw.c hC hF hk h4) he (fun r s4 a4 b4 => hp _ _ a4 (hF.tr b4)))⟩⟩⟩
theorem sp_print (he : 0 ≤ e) (hb : b0 ≤ 1000000) (hw : io_WI b0 (e + 1) σ) (hp : ∀ r σ', io_CI σ' → io_Sc σ' → io_Fr σ σ' → (0 ≤ (σ' 107 10).toInt ∧ (σ' 107 10).toInt ≤ 600 ∧ 0 ≤ (σ' 105 1).toInt ∧ (σ' 105 1).toInt + 41 * (e + 1) ≤ 41 * (σ' 107 10).toInt ∧ 0 ≤ (σ' 93 4).toInt ∧ (σ' 93 4).toInt + e ≤ b0 + (σ' 107 10).toInt) → post r σ') : wp_X0_print σ x post := by
  obtain ⟨h1, h2, a, b, c, d, f, g⟩ := hw
  have z := l_200
  refine ⟨fun _ s1 e1 => ?_, fun c2 => ⟨pz_in.mpr ⟨f, ?_⟩, fun s1 e1 s2 e2 => ?_⟩⟩
  · subst e1
    refine hp _ _ (h1.up ⟨fun q => by omega, fun q => by omega⟩) (h2.of (io_Fr.rf.up (by omega))) (io_Fr.rf.up (by omega)) ?_
    rw [pu_ne (k' := 107) (by decide), pu_ne (k' := 105) (by decide), pu_self, pz_1 (by omega)]
    omega
  · have := pz_nle c2
    show (σ 93 4).toInt < 200
    omega
  · subst e2; subst e1
    refine hp _ _ ((h1.up (by unfold io_ok; rw [if_neg (by decide), if_neg (by decide), if_neg (by decide), if_neg (by decide), if_neg (by decide), if_neg (by decide), if_neg (by decide), if_neg (by decide), if_neg (by decide)]; trivial)).up ⟨fun q => by omega, fun q => by omega⟩) (h2.of ((io_Fr.rf.up (by omega)).up (by omega))) ((io_Fr.rf.up (by omega)).up (by omega)) ?_
    rw [pu_ne (k' := 107) (by decide), pu_ne (k' := 107) (by decide), pu_ne (k' := 105) (by decide), pu_ne (k' := 105) (by decide), pu_self, pu_ne (k' := 93) (by decide), pz_1 (by omega)]
    omega
theorem sk_timesL {σ0 : io_M} {x1 x4 : Int32} (hK : io_KS b0 (e + 1) lim K) (hd : p3.toInt = e + 1) (he : 0 ≤ e ∧ e ≤ 59) (hl : lim ≤ e + 2) (h4 : x4.toInt ≤ 600) (hp : ∀ r σ', io_WI b0 e σ' → io_Fr σ0 σ' → post r σ') : ∀ (n : Nat) (σ : io_M) (y : Int32), io_WI b0 (e + 1) σ → io_Fr σ0 σ → io_nd σ x1 → 0 ≤ y.toInt → y.toInt ≤ 600 → 600 - y.toInt < n → wl_X8_workTimes_12 K n σ x1 p3 x4 y post := by
  intro n
  induction n with
  | zero => intro σ y _ _ _ _ h1 h2; exact absurd h2 (by omega)
  | succ n ih =>
    intro σ y hw hF hn h0 h1 h2
    unfold wl_X8_workTimes_12
    refine ⟨fun _ => sp_give hw (fun s a b => hp _ _ (a.le (by omega)) (hF.tr b)), fun c => sk_call hK hd he hl hw hn (fun r s a b => ⟨fun _ => hp _ _ (a.le (by omega)) (hF.tr b), fun _ => ?_⟩)⟩
    have hc := pz_nle c
    have e2 := pz_1 (x := y) (by omega)
    exact ih _ _ a (hF.tr b) (hn.of b) (by omega) (by omega) (by omega)
theorem sk_times (hK : io_KS b0 (e + 1) lim K) (hd : p3.toInt = e + 1) (he : 0 ≤ e ∧ e ≤ 59) (hl : lim ≤ e + 2) (hw : io_WI b0 (e + 1) σ) (hn : io_nd σ q1) (hp : ∀ r σ', io_WI b0 e σ' → io_Fr σ σ' → post r σ') : wp_X8_workTimes K σ q1 x p3 post := by
  have z := l_0
  have z6 := l_600
  refine ⟨601, sk_timesL hK hd he hl ?_ hp 601 σ 0 hw io_Fr.rf hn (by omega) (by omega) (by omega)⟩
  by_cases c : 600 < x
  · rw [if_pos c]; omega
  · rw [if_neg c]
    have := pz_nlt c
    omega
theorem sk_numFirst (hb : b0 ≤ 1000000) (hK : io_KS b0 (e + 1) lim K) (hd : p2.toInt = e + 1) (he : 0 ≤ e ∧ e ≤ 59) (hl : lim ≤ e + 2) (hw : io_WI b0 (e + 1) σ) (hn : io_nd σ p1) (ha : io_nd σ (σ 98 p1.toNatClampNeg)) (h20 : σ 97 p1.toNatClampNeg = 20 → io_nd σ (σ 99 p1.toNatClampNeg) ∧ io_nd σ (σ 100 p1.toNatClampNeg)) (h23 : ¬ σ 97 p1.toNatClampNeg = 17 → ¬ σ 97 p1.toNatClampNeg = 25 → io_nd σ (σ 99 p1.toNatClampNeg)) (hp : ∀ r σ', io_WI b0 e σ' → io_Fr σ σ' → post r σ') : wp_X8_workNumberFirst K σ p1 p2 post := by
  refine ⟨hn.in hw.2.1, sk_toNumber hK hd he hl hw ha (fun r s a b => ⟨fun _ => hp _ _ (a.le (by omega)) b, fun _ => ?_⟩)⟩
  have e97 : s 97 = σ 97 := b.2.1 97 (by omega) (by omega)
  have e99 : s 99 = σ 99 := b.2.1 99 (by omega) (by omega)
  have e100 : s 100 = σ 100 := b.2.1 100 (by omega) (by omega)
  have hin := (hn.of b).in a.2.1
  refine ⟨hin, fun _ => sp_print he.1 hb a (fun r s2 hC hS hF hB => ⟨fun _ => sp_settle ⟨hC, hS, by unfold io_Bd; omega⟩ (fun r s4 a4 b4 => hp _ _ a4 ((b.tr hF).tr b4)), fun _ => sp_note1 hC hS ⟨hB.2.2.1, by omega⟩ (fun s3 hC3 hF3 hk hn3 => sp_settle (b0 := b0) (e := e) ⟨hC3, hS.of hF3, by unfold io_Bd; rw [hk 107 (by decide) (by decide), hk 93 (by decide) (by decide), hn3]; omega⟩ (fun r s4 a4 b4 => hp _ _ a4 (((b.tr hF).tr hF3).tr b4)))⟩), fun c17 => ⟨fun c => ⟨fun _ => ⟨hin, sk_call hK hd he hl a (by rw [e100]; rw [e97] at c; exact (h20 c).2.of b) (fun r s4 a4 b4 => hp _ _ (a4.le (by omega)) (b.tr b4))⟩, fun _ => ⟨hin, sk_call hK hd he hl a (by rw [e99]; rw [e97] at c; exact (h20 c).1.of b) (fun r s4 a4 b4 => hp _ _ (a4.le (by omega)) (b.tr b4))⟩⟩, fun _ => ⟨fun _ s2 e2 => ?_, fun c25 => ⟨hin, sk_times hK hd he hl a (by rw [e99]; rw [e97] at c17 c25; exact (h23 c17 c25).of b) (fun r s4 a4 b4 => hp _ _ a4 (b.tr b4))⟩⟩⟩⟩
  subst e2
  exact hp _ _ ((a.w (by omega)).le (by omega)) (b.up (by omega))
theorem sk_set (hK : io_KS b0 (e + 1) lim K) (hd : p2.toInt = e + 1) (he : 0 ≤ e ∧ e ≤ 59) (hl : lim ≤ e + 2) (hw : io_WI b0 (e + 1) σ) (hn : io_nd σ p1) (ha : 0 ≤ (σ 98 p1.toNatClampNeg).toInt ∧ (σ 98 p1.toNatClampNeg).toInt < 6) (hb : io_nd σ (σ 99 p1.toNatClampNeg)) (hp : ∀ r σ', io_WI b0 e σ' → io_Fr σ σ' → post r σ') : wp_X8_workSet K σ p1 p2 post := by
  refine ⟨hn.in hw.2.1, sk_call hK hd he hl hw hb (fun r s a b => ⟨fun _ => hp _ _ (a.le (by omega)) b, fun _ => ⟨(hn.of b).in a.2.1, ?_⟩⟩)⟩
  exact sp_assign a (by rw [b.2.1 98 (by omega) (by omega)]; exact ha) (fun s2 a2 b2 => hp _ _ (a2.le (by omega)) (b.tr b2))
theorem sk_two (hK : io_KS b0 (e + 1) lim K) (hd : p2.toInt = e + 1) (he : 0 ≤ e ∧ e ≤ 59) (hl : lim ≤ e + 2) (hw : io_WI b0 (e + 1) σ) (hn : io_nd σ p1) (ha : io_nd σ (σ 98 p1.toNatClampNeg)) (hb : io_nd σ (σ 99 p1.toNatClampNeg)) (hp : ∀ r σ', io_WI b0 e σ' → io_Fr σ σ' → post r σ') : wp_X8_workTwoNumbers K σ p1 p2 post := by
  refine ⟨hn.in hw.2.1, sk_toNumber hK hd he hl hw ha (fun r s a b => ⟨fun _ => hp _ _ (a.le (by omega)) b, fun _ => ⟨(hn.of b).in a.2.1, ?_⟩⟩)⟩
  refine sk_toNumber hK hd he hl a (by rw [b.2.1 99 (by omega) (by omega)]; exact hb.of b) (fun r s2 a2 b2 => ⟨fun _ => hp _ _ (a2.le (by omega)) (b.tr b2), fun _ => ⟨((hn.of b).of b2).in a2.2.1, ?_⟩⟩)
  have g : ∀ (u v : Int32), wp_X8_give s2 u v (fun r s => post r s) := fun u v => sp_give a2 (fun s3 a3 b3 => hp _ _ (a3.le (by omega)) ((b.tr b2).tr b3))
  exact ⟨fun _ => ⟨fun _ => g _ _, fun _ => g _ _⟩, fun _ => g _ _⟩
theorem sk_end (hK : io_KS b0 (e + 1) lim K) (hd : p2.toInt = e + 1) (he : 0 ≤ e ∧ e ≤ 59) (hl : lim ≤ e + 2) (hw : io_WI b0 (e + 1) σ) (hn : io_nd σ q1) (hp : ∀ r σ', io_WI b0 e σ' → io_Fr σ σ' → post r σ') : wp_X8_workEnd K σ q1 p2 post := by
  refine ⟨fun _ => hp _ _ (hw.le (by omega)) io_Fr.rf, fun _ => sk_call hK hd he hl hw hn (fun r s a b => ⟨fun _ => hp _ _ (a.le (by omega)) b, fun _ s1 e1 s2 e2 s3 e3 => ?_⟩)⟩
  subst e3; subst e2; subst e1
  have k := hp (r := 0) _ ((((a.w (k := 107) (j := 7) (v := σ 107 7) (by omega)).w (k := 107) (j := 8) (v := σ 107 8) (by omega)).w (k := 107) (j := 9) (v := σ 107 9) (by omega)).le (by omega)) (((b.up (by omega)).up (by omega)).up (by omega))
  have k1 := hp (r := 1) _ ((((a.w (k := 107) (j := 7) (v := σ 107 7) (by omega)).w (k := 107) (j := 8) (v := σ 107 8) (by omega)).w (k := 107) (j := 9) (v := σ 107 9) (by omega)).le (by omega)) (((b.up (by omega)).up (by omega)).up (by omega))
  exact ⟨fun _ => k, fun _ => k1⟩
theorem sk_catch (hK : io_KS b0 (e + 1) lim K) (hd : p2.toInt = e + 1) (he : 0 ≤ e ∧ e ≤ 59) (hl : lim ≤ e + 2) (hw : io_WI b0 (e + 1) σ) (hn : io_nd σ p1) (ha : io_nd σ (σ 98 p1.toNatClampNeg)) (hb : io_nd σ (σ 99 p1.toNatClampNeg)) (hp : ∀ r σ', io_WI b0 e σ' → io_Fr σ σ' → post r σ') : wp_X8_workCatch K σ p1 p2 post := by
  refine ⟨hn.in hw.2.1, sk_call hK hd he hl hw ha (fun r s a b => ⟨fun _ => ⟨fun _ => ⟨(hn.of b).in a.2.1, fun _ => hp _ _ (a.le (by omega)) b, fun _ => ?_⟩, fun _ => hp _ _ (a.le (by omega)) b⟩, fun _ => hp _ _ (a.le (by omega)) b⟩)⟩
  refine sp_assign a (by rw [l_0]; omega) (fun s2 a2 b2 => ⟨((hn.of b).of b2).in a2.2.1, ?_⟩)
  exact sk_call hK hd he hl a2 (by rw [(b.tr b2).2.1 99 (by omega) (by omega)]; exact hb.of (b.tr b2)) (fun r s3 a3 b3 => hp _ _ (a3.le (by omega)) ((b.tr b2).tr b3))
theorem sk_bracket (hK : io_KS b0 (e + 1) lim K) (hd : p2.toInt = e + 1) (he : 0 ≤ e ∧ e ≤ 59) (hl : lim ≤ e + 2) (hw : io_WI b0 (e + 1) σ) (hn : io_nd σ p1) (ha : io_nd σ (σ 98 p1.toNatClampNeg)) (hb : io_nd σ (σ 99 p1.toNatClampNeg)) (hc : io_nd σ (σ 100 p1.toNatClampNeg)) (hp : ∀ r σ', io_WI b0 e σ' → io_Fr σ σ' → post r σ') : wp_X8_workBracket K σ p1 p2 post := by
  refine ⟨hn.in hw.2.1, sk_call hK hd he hl hw ha (fun r s a b => ⟨fun _ => hp _ _ (a.le (by omega)) b, fun _ => ?_⟩)⟩
  refine sp_assign a (by rw [l_5]; omega) (fun s2 a2 b2 => ⟨((hn.of b).of b2).in a2.2.1, ?_⟩)
  refine sk_call hK hd he hl a2 (by rw [(b.tr b2).2.1 100 (by omega) (by omega)]; exact hc.of (b.tr b2)) (fun r s3 a3 b3 => ?_)
  refine sp_assign a3 (by rw [l_5]; omega) (fun s4 a4 b4 => ⟨(hn.of (((b.tr b2).tr b3).tr b4)).in a4.2.1, ?_⟩)
  exact sk_end hK hd he hl a4 (by rw [(((b.tr b2).tr b3).tr b4).2.1 99 (by omega) (by omega)]; exact hb.of (((b.tr b2).tr b3).tr b4)) (fun r s5 a5 b5 => hp _ _ a5 ((((b.tr b2).tr b3).tr b4).tr b5))
end PK
