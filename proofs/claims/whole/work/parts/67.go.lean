/-! ===== minutes, the rule ===== -/
def JXL (k o j : Nat) : Prop := JX k o j ∨ (k = 0 ∧ 1 ≤ o ∧ o ≤ 27)
def JML (k o j : Nat) : Prop := JM k o j ∨ o = 43 ∨ o = 45 ∨ o = 47 ∨ (o = 39 ∧ j = 7)
theorem INV.lv {a b a' b' : mx_S} (x : INV a b) (l : LV a' b') (ea : kq JXL a a') (eb : kq JML b b') (e7 : b' 0 39 7 = b 0 39 7 ∨ b' 0 39 7 = 1) : INV a' b' := by
  have qa : ∀ k o j, ¬ JXL k o j → a' k o j = a k o j := ea
  have qb : ∀ k o j, ¬ JML k o j → b' k o j = b k o j := eb
  unfold JXL JX at qa
  unfold JML JM at qb
  refine ⟨x.r.k (fun k o j ho => qa k o j (by omega)) (fun o j ho => qb 0 o j (by omega)), ?_, x.t.k (fun o j ho => qa 0 o j (by omega)) (fun o j ho => qb 0 o j (by omega)), ?_, x.tr.k (fun o j ho => qa 0 o j (by omega)) (fun o j ho => qb 0 o j (by omega)), ?_, l, x.i0.k (fun o j h1 h2 => qa 2 o j (by omega)) (fun o j ho => qb 0 o j (by omega)) e7, x.i1.k (fun o j h1 h2 => qa 3 o j (by omega)) (fun o j ho => qb 0 o j (by omega)) e7⟩
  · unfold IS
    rw [qa 0 28 9 (by omega), qb 0 39 1 (by omega)]; exact x.s
  · unfold IF
    rw [qa 0 28 8 (by omega), qb 0 39 12 (by omega)]; exact x.f
  · rw [qb 0 39 21 (by omega), qb 0 39 22 (by omega), qb 0 39 23 (by omega)]; exact x.e
theorem x_nh0 {h mt lw : Nat → Nat} {a : mx_S} (hx : XP 0 h mt lw a) (h2 : h 2 = 0) : mx_sem 74 [mx_R 0 28] a = some (some (mx_I 1), a) := by
  rw [e_X_noHouse, hx.f2, h2, if_pos (by decide)]
theorem x_nh1 {h mt lw : Nat → Nat} (hb : HB h) {a : mx_S} (hx : XP 0 h mt lw a) (h2 : h 2 ≠ 0) : mx_sem 74 [mx_R 0 28] a = some (some (mx_I 0), a) := by
  have r2 := hb.r2
  rw [e_X_noHouse, hx.f2, if_neg (by rw [q_lit, q_eqN (by omega) (by decide)]; exact h2)]
theorem SX_L {a a' : mx_S} (e : kq (SX 0) a a') : kq JXL a a' := kq_mono e (fun k o j q => Or.inr ⟨q.1, by have := q.2; omega, by have := q.2; omega⟩)
theorem S458_L {b b' : mx_S} (e : kq (S458 0) b b') : kq JML b b' := kq_mono e (fun k o j q => by
  unfold JML JM
  rcases q with q | q <;> omega)
theorem go_l {h : Nat → Nat} {D : Nat → Nat → Nat} (h1 : 1 ≤ h 2) {n : Nat} (hn : n ≤ 60) : ∀ (d i : Nat) (c : Cr) (a b : mx_S), i + d = n → GH h D c → XH 0 h D c a → ME h (mt0 h) (lw0 h) D b → MC 0 c b → ∃ c' a' b', mx_H 89 15 [some (mx_R 0 28), some (mx_I (nI n)), some (mx_I (nI i))] a = some (some (mx_I (c' 420)), a') ∧ mx_H 161 19 [some (mx_R 0 39), some (mx_I (nI n)), some (mx_I (nI i))] b = some (some (mx_I (c' 420)), b') ∧ GH h D c' ∧ XH 0 h D c' a' ∧ MC 0 c' b' ∧ kq (SX 0) a a' ∧ kq (S458 0) b b' := by
  intro d
  induction d with
  | zero =>
    intro i c a b hd g xh e hc
    have ei : i = n := by omega
    subst ei
    refine ⟨c, a, b, ?_, ?_, g, xh, hc, kq_rf, kq_rf⟩
    · rw [e_X_go_15, if_pos ((q_leN (by omega) (by omega)).mpr (Nat.le_refl _)), xh.b.mn]
    · rw [e_M_go_19, if_pos ((q_leN (by omega) (by omega)).mpr (Nat.le_refl _)), g420, hc _ (by decide)]
  | succ d ih =>
    intro i c a b hd g xh e hc
    obtain ⟨a1, f1, f2, f3, f4⟩ := s_xminute g.hb h1 g.hD g.lw g.cb xh.p xh.w xh.b xh.a
    obtain ⟨b1, m1, m2, m3⟩ := s_minute g.hb h1 g.hD e g.cb hc
    obtain ⟨c', a', b', y1, y2, y3, y4, y5, y6, y7⟩ := ih (i + 1) _ a1 b1 (by omega) ⟨g.hb, g.hD, g.cb.min g.hb h1 g.hD, g.cd.min g.hb h1 g.hD g.cb, g.nz⟩ ⟨xh.p.x f4, xh.w.x f4, f2, f3⟩ (e.q m3) m2
    refine ⟨c', a', b', ?_, ?_, y3, y4, y5, kq_tr f4 y6, kq_tr m3 y7⟩
    · rw [e_X_go_15, if_neg (by rw [q_leN (by omega) (by omega)]; omega), f1, q_bV, nI_1]; exact y1
    · rw [e_M_go_19, if_neg (by rw [q_leN (by omega) (by omega)]; omega), m1, q_bV, nI_1]; exact y2
theorem iv_go {a b : mx_S} (x : INV a b) (x1 : Int32) : Alk INV 89 161 [mx_I x1] a b := by
  obtain ⟨h, D, c, g, xh, mh⟩ := x.l
  have mh0 := mh.t0
  have hX := e_X_go x1 a
  have hM := e_M_go x1 b
  rw [q_w, mh0.t] at hM
  by_cases h0 : h 2 = 0
  · rw [x_nh0 xh.p h0, q_bI, if_neg (by decide)] at hX
    rw [if_pos h0, if_pos rfl] at hM
    exact ⟨_, _, _, hX, hM, x.t0⟩
  rw [x_nh1 g.hb xh.p h0, q_bI, if_pos rfl] at hX
  rw [if_neg h0, if_neg (by decide)] at hM
  have e1 : (1 : Int32).toInt = 1 := rfl
  have e60 : (60 : Int32).toInt = 60 := rfl
  have l1 : (1 : Int64).toInt = 1 := rfl
  have l60 : (60 : Int64).toInt = 60 := rfl
  by_cases q : x1.toInt < 1 ∨ 60 < x1.toInt
  · rw [s_within1 x1 1 60 (by omega), q_bI, if_pos rfl] at hX
    rw [s_in1 _ _ _ (by rw [q_wide]; omega), q_bI, if_pos rfl] at hM
    exact ⟨_, _, _, hX, hM, x.t0⟩
  obtain ⟨n, hn, rfl⟩ : ∃ n : Nat, n ≤ 60 ∧ x1 = nI n := ⟨x1.toInt.toNat, by omega, q_of (by omega)⟩
  rw [s_within2 (nI n) 1 60 (by omega) (by omega), q_bI, if_neg (by decide)] at hX
  rw [s_in2 _ _ _ (by rw [q_wide]; omega) (by rw [q_wide]; omega), q_bI, if_neg (by decide)] at hM
  have x0 := x.t0
  obtain ⟨c', a', b', y1, y2, y3, y4, y5, y6, y7⟩ := go_l (show 1 ≤ h 2 by omega) hn n 0 c a (mx_up b 0 39 0 0) (by omega) g xh (g.me mh0.m mh0.f x0.e.1 x0.e.2.1) mh0.c
  have e7 : b' 0 39 7 = mx_up b 0 39 0 0 0 39 7 := y7 0 39 7 (fun z => by rcases z with z | z <;> omega)
  refine ⟨_, a', b', hX.trans y1, hM.trans y2, x0.lv ⟨h, D, c', y3, y4, ⟨mh0.m.k (fun j => y7 0 43 j (fun z => by rcases z with z | z <;> omega)), fun p q hp hq => by rw [y7 0 47 _ (fun z => by rcases z with z | z <;> omega)]; exact mh0.f p q hp hq, y5, by rw [e7]; exact mh0.t⟩⟩ (SX_L y6) (S458_L y7) (Or.inl e7)⟩
theorem HB.c {h h' : Nat → Nat} (hb : HB h) (r0 : h' 0 ≤ 20) (r1 : h' 1 ≤ 20) (e : ∀ j, 2 ≤ j → h' j = h j) : HB h' := by
  refine ⟨r0, r1, ?_, ?_, ?_, ?_, ?_, fun i hi => ?_, fun i hi => ?_, fun i hi => ?_, fun i hi => ?_, ?_⟩
  · rw [e 2 (by omega)]; exact hb.r2
  · rw [e 3 (by omega)]; exact hb.r3
  · rw [e 4 (by omega)]; exact hb.r4
  · rw [e 5 (by omega)]; exact hb.r5
  · rw [e 6 (by omega)]; exact hb.r6
  · rw [e 2 (by omega)] at hi
    rw [e _ (by omega)]; exact hb.rm i hi
  · rw [e 3 (by omega)] at hi
    rw [e _ (by omega), e _ (by omega), e _ (by omega), e _ (by omega)]; exact hb.dr i hi
  · rw [e 4 (by omega)] at hi
    rw [e _ (by omega), e _ (by omega), e _ (by omega)]; exact hb.pc i hi
  · rw [e 5 (by omega)] at hi
    rw [e _ (by omega), e _ (by omega), e _ (by omega), e _ (by omega)]; exact hb.gr i hi
  · rw [e 6 (by omega), e 5 (by omega), sm_c (h := h) (h 5) (fun g _ => e _ (by omega))]; exact hb.su
theorem XP.r {k : Nat} {h h' mt lw : Nat → Nat} {a : mx_S} (x : XP k h mt lw a) {r g : Nat} (e0 : h' 0 = r) (e1 : h' 1 = g) (e : ∀ j, 2 ≤ j → h' j = h j) : XP k h' mt lw (mx_up (mx_up a k 1 0 (nI r)) k 1 1 (nI g)) := by
  refine ⟨?_, ?_, ?_, ?_, ?_, ?_, ?_, fun i hi => ?_, fun i hi => ?_, fun i hi => ?_, fun i hi => ?_⟩
  · rw [q_uj (by decide), q_us, e0]
  · rw [q_us, e1]
  · rw [q_uj (by decide), q_uj (by decide), e 2 (by omega)]; exact x.f2
  · rw [q_uj (by decide), q_uj (by decide), e 3 (by omega)]; exact x.f4
  · rw [q_uj (by decide), q_uj (by decide), e 4 (by omega)]; exact x.f8
  · rw [q_uj (by decide), q_uj (by decide), e 5 (by omega)]; exact x.f12
  · rw [q_uj (by decide), q_uj (by decide), e 6 (by omega)]; exact x.f17
  · rw [e 2 (by omega)] at hi
    rw [q_uo (by decide), q_uo (by decide), e _ (by omega)]; exact x.rm i hi
  · rw [e 3 (by omega)] at hi
    rw [e _ (by omega), e _ (by omega), e _ (by omega), ← (x.dr i hi).1, ← (x.dr i hi).2.1, ← (x.dr i hi).2.2]
    simp [q_up]
  · rw [e 4 (by omega)] at hi
    rw [e _ (by omega), e _ (by omega), ← (x.pc i hi).1, ← (x.pc i hi).2.1, ← (x.pc i hi).2.2]
    simp [q_up]
  · rw [e 5 (by omega)] at hi
    rw [e _ (by omega), e _ (by omega), e _ (by omega), ← (x.gr i hi).1, ← (x.gr i hi).2.1, ← (x.gr i hi).2.2.1, ← (x.gr i hi).2.2.2]
    simp [q_up]
theorem iv_rule {a b : mx_S} (x : INV a b) (x1 x2 : Int32) : Alk INV 102 184 [mx_I x1, mx_I x2] a b := by
  obtain ⟨h, D, c, g, xh, mh⟩ := x.l
  have mh0 := mh.t0
  have hX := e_X_rule x1 x2 a
  have hM := e_M_rule x1 x2 b
  rw [q_w, mh0.t] at hM
  by_cases h0 : h 2 = 0
  · rw [x_nh0 xh.p h0, q_bI, if_neg (by decide)] at hX
    rw [if_pos h0, if_pos rfl] at hM
    exact ⟨_, _, _, hX, hM, x.t0⟩
  rw [x_nh1 g.hb xh.p h0, q_bI, if_pos rfl] at hX
  rw [if_neg h0, if_neg (by decide)] at hM
  have e1 : (1 : Int32).toInt = 1 := rfl
  have e20 : (20 : Int32).toInt = 20 := rfl
  have e0 : (0 : Int32).toInt = 0 := rfl
  have l1 : (1 : Int64).toInt = 1 := rfl
  have l20 : (20 : Int64).toInt = 20 := rfl
  have l0 : (0 : Int64).toInt = 0 := rfl
  by_cases q : x1.toInt < 1 ∨ 20 < x1.toInt
  · rw [s_within1 x1 1 20 (by omega), q_bI, if_pos rfl] at hX
    rw [s_in1 _ _ _ (by rw [q_wide]; omega), q_bI, if_pos rfl] at hM
    exact ⟨_, _, _, hX, hM, x.t0⟩
  obtain ⟨r, hr, rfl⟩ : ∃ n : Nat, n ≤ 20 ∧ x1 = nI n := ⟨x1.toInt.toNat, by omega, q_of (by omega)⟩
  rw [s_within2 (nI r) 1 20 (by omega) (by omega), q_bI, if_neg (by decide)] at hX
  rw [s_in2 _ _ _ (by rw [q_wide]; omega) (by rw [q_wide]; omega), q_bI, if_neg (by decide)] at hM
  by_cases q2 : x2.toInt < 0 ∨ 20 < x2.toInt
  · rw [s_within1 x2 0 20 (by omega), q_bI, if_pos rfl] at hX
    rw [s_in1 _ _ _ (by rw [q_wide]; omega), q_bI, if_pos rfl] at hM
    exact ⟨_, _, _, hX, hM, x.t0⟩
  obtain ⟨s, hs, rfl⟩ : ∃ n : Nat, n ≤ 20 ∧ x2 = nI n := ⟨x2.toInt.toNat, by omega, q_of (by omega)⟩
  rw [s_within2 (nI s) 0 20 (by omega) (by omega), q_bI, if_neg (by decide), q_w, q_w] at hX
  rw [s_in2 _ _ _ (by rw [q_wide]; omega) (by rw [q_wide]; omega), q_bI, if_neg (by decide), q_gl (by decide) (by decide), q_w, q_gl (by decide) (by decide), q_w] at hM
  have hm2 : MH 43 (uf (uf h 0 r) 1 s) (mx_up (mx_up (mx_up b 0 39 0 0) 0 43 0 (nI r)) 0 43 1 (nI s)) := (mh0.m.up 0 r).up 1 s
  have u0 : uf (uf h 0 r) 1 s 0 = r := by rw [uf_o (by decide), uf_s]
  have u1 : uf (uf h 0 r) 1 s 1 = s := uf_s
  have ue : ∀ j, 2 ≤ j → uf (uf h 0 r) 1 s j = h j := fun j hj => by rw [uf_o (by omega), uf_o (by omega)]
  generalize uf (uf h 0 r) 1 s = h' at hm2 u0 u1 ue
  have hb' : HB h' := g.hb.c (by omega) (by omega) ue
  have hgo : ∀ v, gO h' v = gO h v := gO_c (ue 5 (by omega)) (fun gg _ => ue _ (by omega))
  have elw : ∀ gg, lw0 h' gg = lw0 h gg := fun gg => ue _ (by omega)
  have emt : mt0 h' = mt0 h := by
    funext p
    unfold mt0
    rw [ue _ (by omega)]
  have elw2 : lw0 h' = lw0 h := by
    funext gg
    exact elw gg
  have xb := xh.b
  have e6 := ue 6 (by omega)
  have e2 := ue 2 (by omega)
  have ek : ∀ o j, o ≠ 1 → mx_up (mx_up a 0 1 0 (nI r)) 0 1 1 (nI s) 0 o j = a 0 o j := fun o j ho => by rw [q_uo ho, q_uo ho]
  have cb' : CB h' c := by
    refine ⟨fun v hv => ?_, fun v hv => ?_⟩
    · rw [e6] at hv
      rw [e2]; exact g.cb.pl v hv
    · rw [e6] at hv
      exact g.cb.ms v hv
  have cd' : CD h' c := fun v hv => by
    rw [e6] at hv
    exact g.cd v hv
  have xb' : XB 0 h' c (mx_up (mx_up a 0 1 0 (nI r)) 0 1 1 (nI s)) := by
    refine ⟨by rw [ek _ _ (by decide)]; exact xb.mn, by rw [ek _ _ (by decide), e6]; exact xb.ou, fun v hv => ?_, fun v hv => ?_, fun v hv => ?_, fun v hv => ?_, fun v hv => ?_, fun v hv => ?_, fun v hv => ?_, fun v p hv hp => ?_, fun rr hr => ?_⟩
    · rw [e6] at hv; rw [ek _ _ (by decide), hgo]; exact xb.gr v hv
    · rw [e6] at hv; rw [ek _ _ (by decide)]; exact xb.pl v hv
    · rw [e6] at hv; rw [ek _ _ (by decide)]; exact xb.pa v hv
    · rw [e6] at hv; rw [ek _ _ (by decide)]; exact xb.sa v hv
    · rw [e6] at hv; rw [ek _ _ (by decide)]; exact xb.dn v hv
    · rw [e6] at hv; rw [ek _ _ (by decide)]; exact xb.ms v hv
    · rw [e6] at hv; rw [ek _ _ (by decide)]; exact xb.la v hv
    · rw [e6] at hv; rw [ek _ _ (by decide)]; exact xb.lo v p hv hp
    · rw [e2] at hr; rw [ek _ _ (by decide), e6]; exact xb.ins rr hr
  have xa' : XA 0 h' (lw0 h') D c (mx_up (mx_up a 0 1 0 (nI r)) 0 1 1 (nI s)) := fun v hv => by
    rw [e6] at hv
    rw [ek _ _ (by decide), xh.a v hv]
    unfold aV
    rw [hgo, elw, aimF_c (h := h) (h' := h') (D := D) (D' := D) (ue 4 (by omega)) (fun p hp => ⟨ue _ (by omega), ue _ (by omega), rfl⟩)]
  refine ⟨_, _, _, hX, hM, x.t0.lv ⟨h', D, c, ⟨hb', g.hD.c g.hb e2 (ue 3 (by omega)) (fun i hi _ => ue i (by omega)), cb', cd', by rw [e2, ue 4 (by omega), ue 5 (by omega), e6]; exact g.nz⟩, ⟨by rw [emt, elw2]; exact xh.p.r u0 u1 ue, by rw [e2]; exact xh.w.k (fun o j q1 q2 => ek o j (by omega)), xb', xa'⟩, ⟨hm2, fun p q hp hq => by rw [q_uo (by decide), q_uo (by decide)]; exact mh0.f p q hp hq, mh0.c.k (fun j => by rw [q_uo (by decide), q_uo (by decide)]), by rw [q_uo (by decide), q_uo (by decide), e2]; exact mh0.t⟩⟩ (kq_up (kq_up kq_rf (Or.inr (by omega))) (Or.inr (by omega))) (kq_up (kq_up kq_rf (Or.inr (by omega))) (Or.inr (by omega))) (Or.inl (by rw [q_uo (by decide), q_uo (by decide)]))⟩
