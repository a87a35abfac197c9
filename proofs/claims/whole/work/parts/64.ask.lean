/-! ===== asks that change nothing ===== -/
theorem iv_copy {a b : mx_S} (x : INV a b) (x1 x2 x3 x4 x5 : Int32) : Alk INV 78 150 [mx_I x1, mx_I x2, mx_I x3, mx_I x4, mx_I x5] a b := (ap_copy x.r x.s x1 x2 x3 x4 x5).mono (fun _ _ h => x.rows h)
theorem m_in0 {x : Int32} {n : Nat} (hn : n < 1000) (h : x.toInt < 0 ∨ (n : Int) ≤ x.toInt) (s : mx_S) : mx_sem 115 [mx_J x.toInt64, mx_J 0, mx_J ((nI n - 1).toInt64)] s = some (some (mx_I 0), s) := s_in1 _ _ _ (by rw [q_wide, q_wide, q_pred (by omega), show (0 : Int64).toInt = 0 from rfl]; omega) s
theorem m_in1 {j n : Nat} (hn : n < 1000) (h : j < n) (s : mx_S) : mx_sem 115 [mx_J (nI j).toInt64, mx_J 0, mx_J ((nI n - 1).toInt64)] s = some (some (mx_I 1), s) := s_in2 _ _ _ (by rw [q_wide, q_toI (by omega), show (0 : Int64).toInt = 0 from rfl]; omega) (by rw [q_wide, q_wide, q_toI (by omega), q_pred (by omega)]; omega) s
theorem m_room0 {h : Nat → Nat} (hb : HB h) {b : mx_S} (hm : MH 43 h b) {x : Int32} (hx : x.toInt < 0 ∨ (h 2 : Int) ≤ x.toInt) : mx_sem 152 [mx_R 0 39, mx_I x] b = some (some (mx_I 0), b) := by
  have h2 := hb.r2
  rw [e_M_isRoom, q_gl (by decide) (by decide), hm 2 (by decide), m_in0 (by omega) hx, q_bI]; rfl
theorem m_room1 {h : Nat → Nat} (hb : HB h) {b : mx_S} (hm : MH 43 h b) {j : Nat} (hj : j < h 2) : mx_sem 152 [mx_R 0 39, mx_I (nI j)] b = some (some (mx_I 1), b) := by
  have h2 := hb.r2
  rw [e_M_isRoom, q_gl (by decide) (by decide), hm 2 (by decide), m_in1 (by omega) hj, q_bI]; rfl
theorem m_vis0 {h : Nat → Nat} (hb : HB h) {b : mx_S} (hm : MH 43 h b) {x : Int32} (hx : x.toInt < 0 ∨ (h 6 : Int) ≤ x.toInt) : mx_sem 116 [mx_R 0 39, mx_I x] b = some (some (mx_I 0), b) := by
  have h2 := hb.r6
  rw [e_M_isVisitor, q_gl (by decide) (by decide), hm 6 (by decide), m_in0 (by omega) hx, q_bI]; rfl
theorem m_vis1 {h : Nat → Nat} (hb : HB h) {b : mx_S} (hm : MH 43 h b) {j : Nat} (hj : j < h 6) : mx_sem 116 [mx_R 0 39, mx_I (nI j)] b = some (some (mx_I 1), b) := by
  have h2 := hb.r6
  rw [e_M_isVisitor, q_gl (by decide) (by decide), hm 6 (by decide), m_in1 (by omega) hj, q_bI]; rfl
theorem x_bel0 {x : Int32} {n : Nat} (hn : n < 1000) (h : x.toInt < 0 ∨ (n : Int) ≤ x.toInt) (s : mx_S) : mx_sem 21 [mx_I x, mx_I (nI n)] s = some (some (mx_I 0), s) := s_below1 x (nI n) n (q_toI (by omega)) h s
theorem x_bel1 {j n : Nat} (hn : n < 1000) (h : j < n) (s : mx_S) : mx_sem 21 [mx_I (nI j), mx_I (nI n)] s = some (some (mx_I 1), s) := s_below2 (nI j) (nI n) n (q_toI (by omega)) (by rw [q_toI (by omega)]; omega) (by rw [q_toI (by omega)]; omega) s
theorem x_vis0 {h mt lw : Nat → Nat} (hb : HB h) {a : mx_S} (hx : XP 0 h mt lw a) {x : Int32} (h0 : x.toInt < 0 ∨ (h 6 : Int) ≤ x.toInt) : mx_sem 67 [mx_R 0 28, mx_I x] a = some (some (mx_I 1), a) := by
  have h6 := hb.r6
  rw [e_X_noVisitor, hx.f17, x_bel0 (by omega) h0, q_bI]; rfl
theorem x_vis1 {h mt lw : Nat → Nat} (hb : HB h) {a : mx_S} (hx : XP 0 h mt lw a) {j : Nat} (hj : j < h 6) : mx_sem 67 [mx_R 0 28, mx_I (nI j)] a = some (some (mx_I 0), a) := by
  have h6 := hb.r6
  rw [e_X_noVisitor, hx.f17, x_bel1 (by omega) hj, q_bI]; rfl
theorem MHs.t0 {h : Nat → Nat} {D : Nat → Nat → Nat} {c : Cr} {b : mx_S} (x : MHs h D c b) : MHs h D c (mx_up b 0 39 0 0) := x.k (fun o j ho => by rw [q_up, if_neg (by omega)])
theorem iv_far {a b : mx_S} (x : INV a b) (x1 x2 : Int32) : Alk INV 85 156 [mx_I x1, mx_I x2] a b := by
  obtain ⟨h, D, c, g, xh, mh⟩ := x.l
  have h2 := g.hb.r2
  have mh0 := mh.t0
  have hX := e_X_far x1 x2 a
  have hM := e_M_far x1 x2 b
  rw [xh.p.f2] at hX
  rw [q_w] at hM
  rcases q_ix x1 (n := h 2) (by omega) with q | ⟨i, hi, rfl⟩
  · rw [x_bel0 (by omega) q, q_bI, if_pos rfl] at hX
    rw [m_room0 g.hb mh0.m q, q_bI, if_pos rfl] at hM
    exact ⟨_, _, _, hX, hM, x.t0⟩
  rw [x_bel1 (by omega) hi, q_bI, if_neg (by decide)] at hX
  rw [m_room1 g.hb mh0.m hi, q_bI, if_neg (by decide)] at hM
  rcases q_ix x2 (n := h 2) (by omega) with q | ⟨j, hj, rfl⟩
  · rw [xh.p.f2, x_bel0 (by omega) q, q_bI, if_pos rfl] at hX
    rw [m_room0 g.hb mh0.m q, q_bI, if_pos rfl] at hM
    exact ⟨_, _, _, hX, hM, x.t0⟩
  have l := (g.hD i j hi hj).1
  rw [xh.p.f2, x_bel1 (by omega) hj, q_bI, if_neg (by decide), q_gx (n := i * 6 + j) (by rw [q_lit, q_mul, q_add]) (by omega) (by decide), xh.w.1 i j hi hj] at hX
  rw [m_room1 g.hb mh0.m hj, q_bI, if_neg (by decide), q_gx (n := 6 * i + j) (by rw [q_lit, q_mul, q_add]) (by omega) (by decide), mh0.f i j (by omega) (by omega)] at hM
  refine ⟨fv (D i j), a, _, ?_, hM, x.t0⟩
  rw [hX]
  unfold fv
  by_cases q : D i j = 1000
  · rw [if_pos (by rw [q]; rfl), if_pos q]
  · rw [if_neg (by rw [q_lit, q_eqN (by omega) (by decide)]; exact q), if_neg q]
theorem iv_room {a b : mx_S} (x : INV a b) (x1 x2 : Int32) : Alk INV 99 182 [mx_I x1, mx_I x2] a b := by
  obtain ⟨h, D, c, g, xh, mh⟩ := x.l
  have h2 := g.hb.r2
  have mh0 := mh.t0
  have hX := e_X_room x1 x2 a
  have hM := e_M_room x1 x2 b
  rw [xh.p.f2] at hX
  rw [q_w] at hM
  rcases q_ix x1 (n := h 2) (by omega) with q | ⟨i, hi, rfl⟩
  · rw [x_bel0 (by omega) q, q_bI, if_pos rfl] at hX
    rw [m_room0 g.hb mh0.m q, q_bI, if_pos rfl] at hM
    exact ⟨_, _, _, hX, hM, x.t0⟩
  rw [x_bel1 (by omega) hi, q_bI, if_neg (by decide)] at hX
  rw [m_room1 g.hb mh0.m hi, q_bI, if_neg (by decide)] at hM
  rcases q_ix x2 (n := 2) (by omega) with q | ⟨j, hj, rfl⟩
  · rw [s_below1 x2 2 2 rfl q, q_bI, if_pos rfl] at hX
    rw [s_in1 _ _ _ (by rw [q_wide, show (0 : Int64).toInt = 0 from rfl, show (1 : Int64).toInt = 1 from rfl]; omega), q_bI, if_pos rfl] at hM
    exact ⟨_, _, _, hX, hM, x.t0⟩
  have hjI : (nI j).toInt = (j : Int) := q_toI (by omega)
  rw [s_below2 (nI j) 2 2 rfl (by omega) (by omega), q_bI, if_neg (by decide), q_g (show i < 6 by omega) (by decide), q_g (show i < 6 by omega) (by decide), xh.p.rm i hi, xh.b.ins i hi] at hX
  rw [s_in2 _ _ _ (by rw [q_wide, show (0 : Int64).toInt = 0 from rfl]; omega) (by rw [q_wide, show (1 : Int64).toInt = 1 from rfl]; omega), q_bI, if_neg (by decide), q_gx (n := 7 + i) (by rw [q_lit, q_add]) (by omega) (by decide), mh0.m _ (by omega), s_inRoom g.hb mh0.m mh0.c, q_bI] at hM
  by_cases j0 : nI j = 0
  · rw [if_pos j0] at hX hM
    exact ⟨_, _, _, hX, hM, x.t0⟩
  · rw [if_neg j0] at hX hM
    exact ⟨_, _, _, hX, hM, x.t0⟩
theorem iv_trace {a b : mx_S} (x : INV a b) (x1 : Int32) : Alk INV 108 189 [mx_I x1] a b := by
  obtain ⟨m, t1, t2, t3, t4⟩ := x.tr
  have hX := e_X_trace x1 a
  have hM := e_M_trace x1 b
  rw [t2] at hX
  rw [q_w, q_uj (by decide), t3] at hM
  rcases q_ix x1 (n := m) (by omega) with q | ⟨i, hi, rfl⟩
  · rw [x_bel0 (by omega) q, q_bI, if_pos rfl] at hX
    rw [m_in0 (by omega) q, q_bI, if_pos rfl] at hM
    exact ⟨_, _, _, hX, hM, x.t0⟩
  · rw [x_bel1 (by omega) hi, q_bI, if_neg (by decide), q_g (show i < 16 by omega) (by decide), t4 i hi] at hX
    rw [m_in1 (by omega) hi, q_bI, if_neg (by decide), q_g (show i < 16 by omega) (by decide), q_uo (by decide)] at hM
    exact ⟨_, _, _, hX, hM, x.t0⟩
theorem iv_visitor {a b : mx_S} (x : INV a b) (x1 x2 : Int32) : Alk INV 109 190 [mx_I x1, mx_I x2] a b := by
  obtain ⟨h, D, c, g, xh, mh⟩ := x.l
  have h2 := g.hb.r2
  have h4 := g.hb.r4
  have h6 := g.hb.r6
  have mh0 := mh.t0
  have hX := e_X_visitor x1 x2 a
  have hM := e_M_visitor x1 x2 b
  rw [q_w] at hM
  rcases q_ix x1 (n := h 6) (by omega) with q | ⟨v, hv, rfl⟩
  · rw [x_vis0 g.hb xh.p q, q_bI, if_neg (by decide)] at hX
    rw [m_vis0 g.hb mh0.m q, q_bI, if_pos rfl] at hM
    exact ⟨_, _, _, hX, hM, x.t0⟩
  have hv30 : v < 30 := by omega
  have me : ME h (mt0 h) (lw0 h) D (mx_up b 0 39 0 0) := by
    refine ⟨mh0.m, mh0.f, fun gg hg => ?_, fun p hp => Or.inr ⟨?_, rfl⟩⟩
    · rw [q_uj (by decide), x.e.1]
      exact ⟨(g.hb.gr gg hg).2.2.2.1, Or.inl ⟨by decide, rfl⟩⟩
    · rw [q_uj (by decide), x.e.2.1]
      exact fun q => nI_m1 (by omega) q.symm
  rw [x_vis1 g.hb xh.p hv, q_bI, if_pos rfl, q_g hv30 (by decide)] at hX
  rw [m_vis1 g.hb mh0.m hv, q_bI, if_neg (by decide), g14 (i := 0) hv30 (by decide) (by rfl), show 14 * v + 0 = 14 * v from rfl, mh0.c _ (by omega)] at hM
  have fin : ∀ {z : Int32}, mx_sem 109 [mx_R 0 28, mx_I (nI v), mx_I x2] a = some (some (mx_I z), a) → mx_sem 190 [mx_R 0 39, mx_I (nI v), mx_I x2] b = some (some (mx_I z), mx_up b 0 39 0 0) → Alk INV 109 190 [mx_I (nI v), mx_I x2] a b := fun h1 h2 => ⟨_, _, _, h1, h2, x.t0⟩
  have go := s_groupOf g.hb mh0.m hv
  have hA := xh.a v hv
  have ix : ∀ (k : Nat) (y : Int32), y = nI (k + 2) → k + 2 < 14 → ∀ f : Nat → Option mx_Rt, mx_g none (((14 : Int32) * nI v + y) - 2) 421 f = f (14 * v + k) := fun k y hy hk f => by
    subst hy
    exact q_gx (by rw [q_lit, q_lit, q_mul, q_add, q_sub (by show 2 ≤ _; omega)]; congr 1) (by omega) (by decide)
  rcases g.cb.pl v hv with pl | pl | ⟨r, hr, pl⟩
  · have av : aV h (lw0 h) D c v = -1 := aV_o (Or.inl pl)
    rw [pl, if_neg (by decide)] at hM
    by_cases k0 : x2 = Int32.ofNat 0
    · subst k0
      rw [if_pos rfl, q_g hv30 (by decide), xh.b.gr v hv] at hX
      rw [if_pos rfl, go, q_bI] at hM
      exact fin hX hM
    by_cases k1 : x2 = Int32.ofNat 1
    · subst k1
      rw [if_neg (by decide), if_pos rfl, q_g hv30 (by decide), xh.b.pl v hv, pl, if_neg (by decide)] at hX
      rw [if_neg (by decide), if_pos rfl, if_neg (by decide)] at hM
      exact fin hX hM
    by_cases k2 : x2 = Int32.ofNat 2
    · subst k2
      rw [if_neg (by decide), if_neg (by decide), if_pos rfl, q_g hv30 (by decide), xh.b.pl v hv, pl] at hX
      rw [if_neg (by decide), if_neg (by decide), if_pos rfl] at hM
      rw [if_neg (show ¬ (-1 : Int32) = -2 by decide)] at hX hM
      exact fin hX hM
    by_cases k3 : x2 = Int32.ofNat 3
    · subst k3
      rw [if_neg (by decide), if_neg (by decide), if_neg (by decide), if_pos rfl, q_g hv30 (by decide), xh.b.pa v hv] at hX
      rw [if_neg (by decide), if_neg (by decide), if_neg (by decide), if_pos rfl, ix 1 _ (by rfl) (by decide), mh0.c _ (by omega)] at hM
      exact fin hX hM
    by_cases k4 : x2 = Int32.ofNat 4
    · subst k4
      rw [if_neg (by decide), if_neg (by decide), if_neg (by decide), if_neg (by decide), if_pos rfl, q_g hv30 (by decide), xh.b.sa v hv] at hX
      rw [if_neg (by decide), if_neg (by decide), if_neg (by decide), if_neg (by decide), if_pos rfl, ix 2 _ (by rfl) (by decide), mh0.c _ (by omega)] at hM
      exact fin hX hM
    by_cases k5 : x2 = Int32.ofNat 5
    · subst k5
      rw [if_neg (by decide), if_neg (by decide), if_neg (by decide), if_neg (by decide), if_neg (by decide), if_pos rfl, q_g hv30 (by decide), xh.b.dn v hv] at hX
      rw [if_neg (by decide), if_neg (by decide), if_neg (by decide), if_neg (by decide), if_neg (by decide), if_pos rfl, ix 3 _ (by rfl) (by decide), mh0.c _ (by omega)] at hM
      exact fin hX hM
    by_cases k6 : x2 = Int32.ofNat 6
    · subst k6
      rw [if_neg (by decide), if_neg (by decide), if_neg (by decide), if_neg (by decide), if_neg (by decide), if_neg (by decide), if_pos rfl, q_g hv30 (by decide), xh.b.ms v hv] at hX
      rw [if_neg (by decide), if_neg (by decide), if_neg (by decide), if_neg (by decide), if_neg (by decide), if_neg (by decide), if_pos rfl, ix 4 _ (by rfl) (by decide), mh0.c _ (by omega)] at hM
      exact fin hX hM
    by_cases k7 : x2 = Int32.ofNat 7
    · subst k7
      rw [if_neg (by decide), if_neg (by decide), if_neg (by decide), if_neg (by decide), if_neg (by decide), if_neg (by decide), if_neg (by decide), if_pos rfl, hA, av, if_pos rfl] at hX
      rw [if_neg (by decide), if_neg (by decide), if_neg (by decide), if_neg (by decide), if_neg (by decide), if_neg (by decide), if_neg (by decide), if_pos rfl] at hM
      exact fin hX hM
    by_cases k8 : x2 = Int32.ofNat 8
    · subst k8
      rw [if_neg (by decide), if_neg (by decide), if_neg (by decide), if_neg (by decide), if_neg (by decide), if_neg (by decide), if_neg (by decide), if_neg (by decide), if_pos rfl, hA, av, if_pos rfl] at hX
      rw [if_neg (by decide), if_neg (by decide), if_neg (by decide), if_neg (by decide), if_neg (by decide), if_neg (by decide), if_neg (by decide), if_neg (by decide), if_pos rfl] at hM
      exact fin hX hM
    rw [if_neg k0, if_neg k1, if_neg k2, if_neg k3, if_neg k4, if_neg k5, if_neg k6, if_neg k7, if_neg k8] at hX hM
    exact fin hX hM
  · have av : aV h (lw0 h) D c v = -1 := aV_o (Or.inr pl)
    rw [pl, if_neg (by decide)] at hM
    by_cases k0 : x2 = Int32.ofNat 0
    · subst k0
      rw [if_pos rfl, q_g hv30 (by decide), xh.b.gr v hv] at hX
      rw [if_pos rfl, go, q_bI] at hM
      exact fin hX hM
    by_cases k1 : x2 = Int32.ofNat 1
    · subst k1
      rw [if_neg (by decide), if_pos rfl, q_g hv30 (by decide), xh.b.pl v hv, pl, if_neg (by decide)] at hX
      rw [if_neg (by decide), if_pos rfl, if_neg (by decide)] at hM
      exact fin hX hM
    by_cases k2 : x2 = Int32.ofNat 2
    · subst k2
      rw [if_neg (by decide), if_neg (by decide), if_pos rfl, q_g hv30 (by decide), xh.b.pl v hv, pl] at hX
      rw [if_neg (by decide), if_neg (by decide), if_pos rfl] at hM
      rw [if_pos rfl] at hX hM
      exact fin hX hM
    by_cases k3 : x2 = Int32.ofNat 3
    · subst k3
      rw [if_neg (by decide), if_neg (by decide), if_neg (by decide), if_pos rfl, q_g hv30 (by decide), xh.b.pa v hv] at hX
      rw [if_neg (by decide), if_neg (by decide), if_neg (by decide), if_pos rfl, ix 1 _ (by rfl) (by decide), mh0.c _ (by omega)] at hM
      exact fin hX hM
    by_cases k4 : x2 = Int32.ofNat 4
    · subst k4
      rw [if_neg (by decide), if_neg (by decide), if_neg (by decide), if_neg (by decide), if_pos rfl, q_g hv30 (by decide), xh.b.sa v hv] at hX
      rw [if_neg (by decide), if_neg (by decide), if_neg (by decide), if_neg (by decide), if_pos rfl, ix 2 _ (by rfl) (by decide), mh0.c _ (by omega)] at hM
      exact fin hX hM
    by_cases k5 : x2 = Int32.ofNat 5
    · subst k5
      rw [if_neg (by decide), if_neg (by decide), if_neg (by decide), if_neg (by decide), if_neg (by decide), if_pos rfl, q_g hv30 (by decide), xh.b.dn v hv] at hX
      rw [if_neg (by decide), if_neg (by decide), if_neg (by decide), if_neg (by decide), if_neg (by decide), if_pos rfl, ix 3 _ (by rfl) (by decide), mh0.c _ (by omega)] at hM
      exact fin hX hM
    by_cases k6 : x2 = Int32.ofNat 6
    · subst k6
      rw [if_neg (by decide), if_neg (by decide), if_neg (by decide), if_neg (by decide), if_neg (by decide), if_neg (by decide), if_pos rfl, q_g hv30 (by decide), xh.b.ms v hv] at hX
      rw [if_neg (by decide), if_neg (by decide), if_neg (by decide), if_neg (by decide), if_neg (by decide), if_neg (by decide), if_pos rfl, ix 4 _ (by rfl) (by decide), mh0.c _ (by omega)] at hM
      exact fin hX hM
    by_cases k7 : x2 = Int32.ofNat 7
    · subst k7
      rw [if_neg (by decide), if_neg (by decide), if_neg (by decide), if_neg (by decide), if_neg (by decide), if_neg (by decide), if_neg (by decide), if_pos rfl, hA, av, if_pos rfl] at hX
      rw [if_neg (by decide), if_neg (by decide), if_neg (by decide), if_neg (by decide), if_neg (by decide), if_neg (by decide), if_neg (by decide), if_pos rfl] at hM
      exact fin hX hM
    by_cases k8 : x2 = Int32.ofNat 8
    · subst k8
      rw [if_neg (by decide), if_neg (by decide), if_neg (by decide), if_neg (by decide), if_neg (by decide), if_neg (by decide), if_neg (by decide), if_neg (by decide), if_pos rfl, hA, av, if_pos rfl] at hX
      rw [if_neg (by decide), if_neg (by decide), if_neg (by decide), if_neg (by decide), if_neg (by decide), if_neg (by decide), if_neg (by decide), if_neg (by decide), if_pos rfl] at hM
      exact fin hX hM
    rw [if_neg k0, if_neg k1, if_neg k2, if_neg k3, if_neg k4, if_neg k5, if_neg k6, if_neg k7, if_neg k8] at hX hM
    exact fin hX hM
  · have av := aV_r (h := h) (lw := lw0 h) (D := D) (c := c) (v := v) (show r < 2147483648 by omega) pl
    have ma := s_maim g.hb g.hD me hv hr ((mh0.c _ (by omega)).trans pl) (mh0.c _ (by omega))
    have ok := aimF_ok h D (lw0 h (gO h v)) r (c (14 * v + 3))
    rw [pl, if_pos (q_le0 (by omega)), ma, q_bI] at hM
    rw [av] at hA
    generalize aimF h D (lw0 h (gO h v)) r (c (14 * v + 3)) = A at hM hA ok
    by_cases k0 : x2 = Int32.ofNat 0
    · subst k0
      rw [if_pos rfl, q_g hv30 (by decide), xh.b.gr v hv] at hX
      rw [if_pos rfl, go, q_bI] at hM
      exact fin hX hM
    by_cases k1 : x2 = Int32.ofNat 1
    · subst k1
      rw [if_neg (by decide), if_pos rfl, q_g hv30 (by decide), xh.b.pl v hv, pl, if_pos (q_le0 (by omega)), q_g hv30 (by decide), xh.b.pl v hv, pl] at hX
      rw [if_neg (by decide), if_pos rfl, if_pos (q_le0 (by omega))] at hM
      exact fin hX hM
    by_cases k2 : x2 = Int32.ofNat 2
    · subst k2
      rw [if_neg (by decide), if_neg (by decide), if_pos rfl, q_g hv30 (by decide), xh.b.pl v hv, pl] at hX
      rw [if_neg (by decide), if_neg (by decide), if_pos rfl] at hM
      rw [if_neg (nI_m2 (show r < 2147483648 by omega))] at hX hM
      exact fin hX hM
    by_cases k3 : x2 = Int32.ofNat 3
    · subst k3
      rw [if_neg (by decide), if_neg (by decide), if_neg (by decide), if_pos rfl, q_g hv30 (by decide), xh.b.pa v hv] at hX
      rw [if_neg (by decide), if_neg (by decide), if_neg (by decide), if_pos rfl, ix 1 _ (by rfl) (by decide), mh0.c _ (by omega)] at hM
      exact fin hX hM
    by_cases k4 : x2 = Int32.ofNat 4
    · subst k4
      rw [if_neg (by decide), if_neg (by decide), if_neg (by decide), if_neg (by decide), if_pos rfl, q_g hv30 (by decide), xh.b.sa v hv] at hX
      rw [if_neg (by decide), if_neg (by decide), if_neg (by decide), if_neg (by decide), if_pos rfl, ix 2 _ (by rfl) (by decide), mh0.c _ (by omega)] at hM
      exact fin hX hM
    by_cases k5 : x2 = Int32.ofNat 5
    · subst k5
      rw [if_neg (by decide), if_neg (by decide), if_neg (by decide), if_neg (by decide), if_neg (by decide), if_pos rfl, q_g hv30 (by decide), xh.b.dn v hv] at hX
      rw [if_neg (by decide), if_neg (by decide), if_neg (by decide), if_neg (by decide), if_neg (by decide), if_pos rfl, ix 3 _ (by rfl) (by decide), mh0.c _ (by omega)] at hM
      exact fin hX hM
    by_cases k6 : x2 = Int32.ofNat 6
    · subst k6
      rw [if_neg (by decide), if_neg (by decide), if_neg (by decide), if_neg (by decide), if_neg (by decide), if_neg (by decide), if_pos rfl, q_g hv30 (by decide), xh.b.ms v hv] at hX
      rw [if_neg (by decide), if_neg (by decide), if_neg (by decide), if_neg (by decide), if_neg (by decide), if_neg (by decide), if_pos rfl, ix 4 _ (by rfl) (by decide), mh0.c _ (by omega)] at hM
      exact fin hX hM
    by_cases k7 : x2 = Int32.ofNat 7
    · subst k7
      rw [if_neg (by decide), if_neg (by decide), if_neg (by decide), if_neg (by decide), if_neg (by decide), if_neg (by decide), if_neg (by decide), if_pos rfl, hA] at hX
      rw [if_neg (by decide), if_neg (by decide), if_neg (by decide), if_neg (by decide), if_neg (by decide), if_neg (by decide), if_neg (by decide), if_pos rfl] at hM
      by_cases a0 : A = 1000
      · subst a0
        rw [if_pos (by rfl)] at hX
        exact fin hX hM
      · have va : vNo A = nI A := if_neg a0
        rw [va, if_neg (nI_m1 (by omega))] at hX
        rw [fv_lt (by omega)] at hM
        exact fin hX hM
    by_cases k8 : x2 = Int32.ofNat 8
    · subst k8
      rw [if_neg (by decide), if_neg (by decide), if_neg (by decide), if_neg (by decide), if_neg (by decide), if_neg (by decide), if_neg (by decide), if_neg (by decide), if_pos rfl, hA] at hX
      rw [if_neg (by decide), if_neg (by decide), if_neg (by decide), if_neg (by decide), if_neg (by decide), if_neg (by decide), if_neg (by decide), if_neg (by decide), if_pos rfl] at hM
      by_cases a0 : A = 1000
      · subst a0
        rw [if_pos (by rfl)] at hX
        rw [if_pos (by rfl)] at hM
        exact fin hX hM
      · have va : vNo A = nI A := if_neg a0
        rw [va, if_neg (nI_m1 (by omega)), q_gx (n := v * 8 + A) (by rw [q_lit, q_mul, q_add]) (by omega) (by decide), xh.b.lo v A hv (by omega)] at hX
        rw [if_neg (fun q => a0 ((fv_no (by omega)).mp q)), fv_lt (by omega), q_gx (n := 14 * v + 6 + A) (by rw [q_lit, q_lit, q_mul, q_add, q_add]) (by omega) (by decide), mh0.c _ (by omega)] at hM
        exact fin hX hM
    rw [if_neg k0, if_neg k1, if_neg k2, if_neg k3, if_neg k4, if_neg k5, if_neg k6, if_neg k7, if_neg k8] at hX hM
    exact fin hX hM
theorem n_rows {a b b1 : mx_S} (hr : IR a b) (e : ∀ j, b1 0 40 j = b 0 40 j) : ∀ (d i : Nat) (y : Int32), i + d = 8 → ∃ z, mx_H 79 5 [some (mx_R 0 28), some (mx_I y), some (mx_I (nI i))] a = some (some (mx_I z), a) ∧ mx_H 151 10 [some (mx_R 0 39), none, some (mx_I y), some (mx_I (nI i))] b1 = some (some (mx_I z), b1) := by
  intro d
  induction d with
  | zero =>
    intro i y hd
    have ei : i = 8 := by omega
    subst ei
    exact ⟨y, by rw [e_X_standingRows_5, if_pos (by decide)], by rw [e_M_count_10, if_pos (by decide)]⟩
  | succ d ih =>
    intro i y hd
    have hlt : ¬ (8 : Int32) ≤ nI i := by rw [q_lit, q_leN (by decide) (by omega)]; omega
    rw [e_X_standingRows_5, if_neg hlt, q_g (by omega) (by decide), nI_1, e_M_count_10, if_neg hlt, q_g (by omega) (by decide), nI_1, e i]
    rcases (hr i (by omega)).2.2 with ⟨h1, h2⟩ | ⟨h1, l, h2, h3, h4⟩
    · rw [h1, h2, if_neg (by decide), if_pos (by decide)]
      exact ih (i + 1) _ (by omega)
    · rw [h1, h4, if_pos rfl, if_neg (q_lt0 (by omega))]
      exact ih (i + 1) _ (by omega)
theorem n_out {h : Nat → Nat} (hb : HB h) {b : mx_S} (hm : MH 43 h b) {c : Cr} (hc : MC 0 c b) : ∀ (d v : Nat), v + d = h 6 → mx_H 151 45 [some (mx_R 0 39), none, some (mx_I (nI (cnt c (-2) v))), some (mx_I (nI v))] b = some (some (mx_I (nI (cnt c (-2) (h 6)))), b) := by
  have h6 := hb.r6
  intro d
  induction d with
  | zero =>
    intro v hd
    have e : v = h 6 := by omega
    subst e
    rw [e_M_count_45, q_gl (by decide) (by decide), hm 6 (by decide), if_pos ((q_leN (by omega) (by omega)).mpr (Nat.le_refl _))]
  | succ d ih =>
    intro v hd
    have hih := ih (v + 1) (by omega)
    rw [e_M_count_45, q_gl (by decide) (by decide), hm 6 (by decide), if_neg (by rw [q_leN (by omega) (by omega)]; omega), g14 (i := 0) (show v < 30 by omega) (by decide) (by rfl), show 14 * v + 0 = 14 * v from rfl, hc _ (by omega)]
    rw [show cnt c (-2) (v + 1) = cnt c (-2) v + (if c (14 * v) = -2 then 1 else 0) from rfl] at hih
    by_cases q : c (14 * v) = -2
    · rw [if_pos q] at hih ⊢
      rw [nI_1, nI_1]; exact hih
    · rw [if_neg q] at hih ⊢
      rw [show nI (cnt c (-2) v) + 0 = nI (cnt c (-2) v) from Int32.add_zero _, nI_1]; exact hih
theorem iv_count {a b : mx_S} (x : INV a b) (x1 : Int32) : Alk INV 80 151 [mx_I x1] a b := by
  obtain ⟨h, D, c, g, xh, mh⟩ := x.l
  have mh0 := mh.t0
  have hX := e_X_count x1 a
  have hM := e_M_count x1 b
  rw [q_w] at hM
  have fin : ∀ {z : Int32}, mx_sem 80 [mx_R 0 28, mx_I x1] a = some (some (mx_I z), a) → mx_sem 151 [mx_R 0 39, mx_I x1] b = some (some (mx_I z), mx_up b 0 39 0 0) → Alk INV 80 151 [mx_I x1] a b := fun h1 h2 => ⟨_, _, _, h1, h2, x.t0⟩
  have ix : ∀ (k : Nat) (y : Int32), y = nI k → k < 10 → ∀ f : Nat → Option mx_Rt, mx_g none (((2 : Int32) + y) - 1) 80 f = f (1 + k) := fun k y hy hk f => by
    subst hy
    exact q_gx (by rw [q_lit, q_lit, q_add, q_sub (by show 1 ≤ _; omega)]; congr 1; show 2 + k - 1 = 1 + k; omega) (by omega) (by decide)
  by_cases k0 : x1 = Int32.ofNat 0
  · subst k0
    obtain ⟨z, z1, z2⟩ := n_rows (b1 := mx_up b 0 39 0 0) x.r (fun j => by rw [q_uo (by decide)]) 8 0 0 (by omega)
    rw [if_pos rfl, e_X_standingRows, show mx_I 0 = mx_I (nI 0) from rfl] at hX
    have z1 : mx_H 79 5 [some (mx_R 0 28), some (mx_I (nI 0)), some (mx_I (nI 0))] a = some (some (mx_I z), a) := z1
    rw [z1, q_bI] at hX
    rw [if_pos rfl] at hM
    exact fin hX (hM.trans z2)
  by_cases k1 : x1 = Int32.ofNat 1
  · subst k1
    rw [if_neg (by decide), if_pos rfl, xh.p.f2] at hX
    rw [if_neg (by decide), if_pos rfl, ix 1 _ (by rfl) (by decide), mh0.m _ (by decide)] at hM
    exact fin hX hM
  by_cases k2 : x1 = Int32.ofNat 2
  · subst k2
    rw [if_neg (by decide), if_neg (by decide), if_pos rfl, xh.p.f4] at hX
    rw [if_neg (by decide), if_neg (by decide), if_pos rfl, ix 2 _ (by rfl) (by decide), mh0.m _ (by decide)] at hM
    exact fin hX hM
  by_cases k3 : x1 = Int32.ofNat 3
  · subst k3
    rw [if_neg (by decide), if_neg (by decide), if_neg (by decide), if_pos rfl, xh.p.f8] at hX
    rw [if_neg (by decide), if_neg (by decide), if_neg (by decide), if_pos rfl, ix 3 _ (by rfl) (by decide), mh0.m _ (by decide)] at hM
    exact fin hX hM
  by_cases k4 : x1 = Int32.ofNat 4
  · subst k4
    rw [if_neg (by decide), if_neg (by decide), if_neg (by decide), if_neg (by decide), if_pos rfl, xh.p.f12] at hX
    rw [if_neg (by decide), if_neg (by decide), if_neg (by decide), if_neg (by decide), if_pos rfl, ix 4 _ (by rfl) (by decide), mh0.m _ (by decide)] at hM
    exact fin hX hM
  by_cases k5 : x1 = Int32.ofNat 5
  · subst k5
    rw [if_neg (by decide), if_neg (by decide), if_neg (by decide), if_neg (by decide), if_neg (by decide), if_pos rfl, xh.p.f17] at hX
    rw [if_neg (by decide), if_neg (by decide), if_neg (by decide), if_neg (by decide), if_neg (by decide), if_pos rfl, ix 5 _ (by rfl) (by decide), mh0.m _ (by decide)] at hM
    exact fin hX hM
  by_cases k6 : x1 = Int32.ofNat 6
  · subst k6
    rw [if_neg (by decide), if_neg (by decide), if_neg (by decide), if_neg (by decide), if_neg (by decide), if_neg (by decide), if_pos rfl, xh.b.mn] at hX
    rw [if_neg (by decide), if_neg (by decide), if_neg (by decide), if_neg (by decide), if_neg (by decide), if_neg (by decide), if_pos rfl, g420, mh0.c _ (by decide)] at hM
    exact fin hX hM
  by_cases k7 : x1 = Int32.ofNat 7
  · subst k7
    rw [if_neg (by decide), if_neg (by decide), if_neg (by decide), if_neg (by decide), if_neg (by decide), if_neg (by decide), if_neg (by decide), if_pos rfl, xh.b.ou] at hX
    rw [if_neg (by decide), if_neg (by decide), if_neg (by decide), if_neg (by decide), if_neg (by decide), if_neg (by decide), if_neg (by decide), if_pos rfl] at hM
    exact fin hX (hM.trans (n_out g.hb mh0.m mh0.c (h 6) 0 (by omega)))
  by_cases k8 : x1 = Int32.ofNat 8
  · subst k8
    obtain ⟨n, _, t2, t3, _⟩ := x.t
    rw [if_neg (by decide), if_neg (by decide), if_neg (by decide), if_neg (by decide), if_neg (by decide), if_neg (by decide), if_neg (by decide), if_neg (by decide), if_pos rfl, t2] at hX
    rw [if_neg (by decide), if_neg (by decide), if_neg (by decide), if_neg (by decide), if_neg (by decide), if_neg (by decide), if_neg (by decide), if_neg (by decide), if_pos rfl, q_uj (by decide), t3] at hM
    exact fin hX hM
  rw [if_neg k0, if_neg k1, if_neg k2, if_neg k3, if_neg k4, if_neg k5, if_neg k6, if_neg k7, if_neg k8] at hX hM
  exact fin hX hM
