/-! ===== foretold: tickets, one way, pictures ===== -/
theorem HB.t {h : Nat → Nat} (hb : HB h) {g v : Nat} (hg : g < h 5) (hv : v ≤ 60) : HB (uf h (57 + 4 * g) v) := by
  have r2 := hb.r2
  have r3 := hb.r3
  have r4 := hb.r4
  refine ⟨?_, ?_, ?_, ?_, ?_, ?_, ?_, fun i hi => ?_, fun i hi => ?_, fun i hi => ?_, fun i hi => ?_, ?_⟩
  · rw [uf_o (by omega)]; exact hb.r0
  · rw [uf_o (by omega)]; exact hb.r1
  · rw [uf_o (by omega)]; exact hb.r2
  · rw [uf_o (by omega)]; exact hb.r3
  · rw [uf_o (by omega)]; exact hb.r4
  · rw [uf_o (by omega)]; exact hb.r5
  · rw [uf_o (by omega)]; exact hb.r6
  · rw [uf_o (by omega)] at hi
    rw [uf_o (by omega)]; exact hb.rm i hi
  · rw [uf_o (by omega)] at hi
    rw [uf_o (by omega), uf_o (by omega), uf_o (by omega), uf_o (by omega)]; exact hb.dr i hi
  · rw [uf_o (by omega)] at hi
    rw [uf_o (by omega), uf_o (by omega), uf_o (by omega)]; exact hb.pc i hi
  · rw [uf_o (by omega)] at hi
    have gr := hb.gr i hi
    rw [uf_o (show 56 + 4 * i ≠ 57 + 4 * g by omega), uf_o (show 58 + 4 * i ≠ 57 + 4 * g by omega), uf_o (show 59 + 4 * i ≠ 57 + 4 * g by omega)]
    by_cases e : i = g
    · subst e
      rw [uf_s]; exact ⟨gr.1, gr.2.1, hv, gr.2.2.2⟩
    · rw [uf_o (by omega)]; exact gr
  · rw [uf_o (by omega), uf_o (by omega), sm_c (h := h) (h 5) (fun gg _ => uf_o (by omega))]; exact hb.su
theorem XP.ut {k : Nat} {h mt lw : Nat → Nat} (hb : HB h) {a : mx_S} (x : XP k h mt lw a) {g : Nat} (hg : g < h 5) (v : Nat) : XP k (uf h (57 + 4 * g) v) mt lw (mx_up a k 10 g (nI v)) := by
  have r2 := hb.r2
  have r3 := hb.r3
  have r4 := hb.r4
  refine ⟨?_, ?_, ?_, ?_, ?_, ?_, ?_, fun i hi => ?_, fun i hi => ?_, fun i hi => ?_, fun i hi => ?_⟩
  · rw [uf_o (by omega), q_uo (by decide)]; exact x.f0
  · rw [uf_o (by omega), q_uo (by decide)]; exact x.f1
  · rw [uf_o (by omega), q_uo (by decide)]; exact x.f2
  · rw [uf_o (by omega), q_uo (by decide)]; exact x.f4
  · rw [uf_o (by omega), q_uo (by decide)]; exact x.f8
  · rw [uf_o (by omega), q_uo (by decide)]; exact x.f12
  · rw [uf_o (by omega), q_uo (by decide)]; exact x.f17
  · rw [uf_o (by omega)] at hi
    rw [uf_o (by omega), q_uo (by decide)]; exact x.rm i hi
  · rw [uf_o (by omega)] at hi
    rw [uf_o (by omega), uf_o (by omega), uf_o (by omega), ← (x.dr i hi).1, ← (x.dr i hi).2.1, ← (x.dr i hi).2.2]
    simp [q_up]
  · rw [uf_o (by omega)] at hi
    rw [uf_o (by omega), uf_o (by omega), ← (x.pc i hi).1, ← (x.pc i hi).2.1, ← (x.pc i hi).2.2]
    simp [q_up]
  · rw [uf_o (by omega)] at hi
    obtain ⟨g1, g2, g3, g4⟩ := x.gr i hi
    rw [uf_o (show 56 + 4 * i ≠ 57 + 4 * g by omega), uf_o (show 59 + 4 * i ≠ 57 + 4 * g by omega)]
    refine ⟨by rw [q_uo (by decide)]; exact g1, ?_, by rw [q_uo (by decide)]; exact g3, by rw [q_uo (by decide)]; exact g4⟩
    by_cases e : i = g
    · subst e; rw [uf_s, q_us]
    · rw [uf_o (by omega), q_uj e]; exact g2
theorem pk_tick {h : Nat → Nat} {D : Nat → Nat → Nat} {c : Cr} (g : GH h D c) {gg : Nat} (hg : gg < h 5) : PK h D (57 + 4 * gg) 0 60 := by
  have r5 := g.hb.r5
  exact ⟨fun v _ hv => g.hb.t hg hv, fun v => g.hD.c g.hb (uf_o (by omega)) (uf_o (by omega)) (fun i _ hi => uf_o (by omega)), by omega, by omega, by omega, by omega, by omega, fun p _ => by omega, fun g2 _ => by omega⟩
theorem x_tick {h : Nat → Nat} {D : Nat → Nat → Nat} {c : Cr} (g : GH h D c) (h1 : 1 ≤ h 2) (p6 : 1 ≤ h 6) {gg : Nat} (hg : gg < h 5) {n : Nat} (hn : n ≤ 120) : ∀ (d v u : Nat) (best most : Int32) (a : mx_S), v + d = 61 → u ≤ 60 → XP 1 (uf h (57 + 4 * gg) u) (mt0 h) (lw0 h) a → XW 1 (h 2) D a → ∃ a', mx_H 107 24 [some (mx_R 0 28), some (mx_I (nI gg)), some (mx_I (nI n)), some (mx_I best), some (mx_I most), some (mx_I (nI v)), none] a = some (some (mx_I (bst (Fdv 0 h (mt0 h) (lw0 h) D n (57 + 4 * gg)) d v best most)), a') ∧ kq JX a a' := by
  have r5 := g.hb.r5
  intro d
  induction d with
  | zero =>
    intro v u best most a hd hu hx hw
    have ev : v = 61 := by omega
    subst ev
    refine ⟨a, ?_, kq_rf⟩
    rw [e_X_tickets_24, if_pos (by decide)]; rfl
  | succ d ih =>
    intro v u best most a hd hu hx hw
    have hX := e_X_tickets_24 (nI gg) (nI n) best most (nI v) a
    have k1 : kq JX a (mx_up a 1 10 gg (nI v)) := kq_up kq_rf (Or.inl ⟨rfl, by omega⟩)
    have hx1 := hx.ut (g.hb.t hg hu) (g := gg) (by rw [uf_o (by omega)]; exact hg) v
    rw [uf_uf] at hx1
    have hw1 : XW 1 (h 2) D (mx_up a 1 10 gg (nI v)) := hw.k (fun o j q1 q2 => by rw [q_uo (by omega)])
    obtain ⟨a2, y1, y2⟩ := x_dayv g h1 p6 (pk_tick g hg) hn 0 (Nat.zero_le v) (show v ≤ 60 by omega) hx1 hw1
    rw [if_neg (by rw [q_lit, q_ltN (by decide) (by omega)]; omega), q_g (show gg < 6 by omega) (by decide), q_w, y1, q_bI, nI_1] at hX
    rw [show bst (Fdv 0 h (mt0 h) (lw0 h) D n (57 + 4 * gg)) (d + 1) v best most = if Fdv 0 h (mt0 h) (lw0 h) D n (57 + 4 * gg) v ≤ most then bst (Fdv 0 h (mt0 h) (lw0 h) D n (57 + 4 * gg)) d (v + 1) best most else bst (Fdv 0 h (mt0 h) (lw0 h) D n (57 + 4 * gg)) d (v + 1) (nI v) (Fdv 0 h (mt0 h) (lw0 h) D n (57 + 4 * gg) v) from rfl]
    have hx2 := hx1.b y2
    have hw2 := hw1.b y2
    by_cases q : Fdv 0 h (mt0 h) (lw0 h) D n (57 + 4 * gg) v ≤ most
    · rw [if_pos q] at hX ⊢
      obtain ⟨a', z1, z2⟩ := ih (v + 1) v best most a2 (by omega) (by omega) hx2 hw2
      exact ⟨a', hX.trans z1, kq_tr k1 (kq_tr (SXb_J y2) z2)⟩
    · rw [if_neg q] at hX ⊢
      obtain ⟨a', z1, z2⟩ := ih (v + 1) v (nI v) (Fdv 0 h (mt0 h) (lw0 h) D n (57 + 4 * gg) v) a2 (by omega) (by omega) hx2 hw2
      exact ⟨a', hX.trans z1, kq_tr k1 (kq_tr (SXb_J y2) z2)⟩
theorem GH.n0 {h : Nat → Nat} {D : Nat → Nat → Nat} {c : Cr} (g : GH h D c) (q : h 2 ≠ 0) : 1 ≤ h 2 ∧ 1 ≤ h 4 ∧ 1 ≤ h 6 := by
  rcases g.nz with z | z
  · exact absurd z.1 q
  · exact ⟨by omega, z⟩
/-- with a group, a door or a picture there is a house -/
theorem GH.n5 {h : Nat → Nat} {D : Nat → Nat → Nat} {c : Cr} (g : GH h D c) (q : 1 ≤ h 3 ∨ 1 ≤ h 4) : h 2 ≠ 0 := by
  intro z
  rcases q with q | q
  · have := (g.hb.dr 0 (by omega)).1; omega
  · have := (g.hb.pc 0 (by omega)).1; omega
theorem GH.ng {h : Nat → Nat} {D : Nat → Nat → Nat} {c : Cr} (g : GH h D c) (q : 1 ≤ h 5) : h 2 ≠ 0 := by
  intro z
  rcases g.nz with w | w
  · omega
  · exact g.n5 (Or.inr w.1) z
theorem iv_tickets {a b : mx_S} (x : INV a b) (x1 x2 : Int32) : Alk INV 107 188 [mx_I x1, mx_I x2] a b := by
  obtain ⟨h, D, c, g, xh, mh⟩ := x.l
  have r5 := g.hb.r5
  have mh0 := mh.t0
  have x0 := x.t0
  have hX := e_X_tickets x1 x2 a
  have hM := e_M_tickets x1 x2 b
  rw [xh.p.f12] at hX
  rw [q_w, q_gl (by decide) (by decide), mh0.m 5 (by decide)] at hM
  rcases q_ix x1 (n := h 5) (by omega) with q | ⟨gg, hg, rfl⟩
  · rw [x_bel0 (by omega) q, q_bI, if_pos rfl] at hX
    rw [m_in0 (by omega) q, q_bI, if_pos rfl] at hM
    exact ⟨_, _, _, hX, hM, x0⟩
  rw [x_bel1 (by omega) hg, q_bI, if_neg (by decide)] at hX
  rw [m_in1 (by omega) hg, q_bI, if_neg (by decide)] at hM
  by_cases q : x2.toInt < 1 ∨ 120 < x2.toInt
  · rw [(day0 q a b).1, q_bI, if_neg (by decide)] at hX
    rw [(day0 q a _).2, q_bI, if_pos rfl] at hM
    exact ⟨_, _, _, hX, hM, x0⟩
  obtain ⟨d1, d2, n, hn, rfl⟩ := day1 q
  obtain ⟨p2, p4, p6⟩ := g.n0 (g.ng (by omega))
  obtain ⟨a1, t1, t2, t3, t4, -⟩ := trial g.hb xh
  obtain ⟨a2, u1, u2⟩ := x_tick g p2 p6 hg hn 61 0 (h (57 + 4 * gg)) (nI 0) (-1) a1 (by omega) (g.hb.gr gg hg).2.2.1 (by rw [uf_id]; exact t2) t3
  obtain ⟨b2, v1, v2⟩ := s_bestAt g p2 (pk_tick g hg) (by decide) (by decide) hn 0 (g.me mh0.m mh0.f x0.e.1 x0.e.2.1) x0.e.2.2 (x1 := (56 : Int32) + (4 : Int32) * nI gg + 1) (x2 := 0) (x3 := 60) (by rw [q_lit, q_lit, q_lit, q_mul, q_add, q_add]; congr 1; show 56 + 4 * gg + 1 = 57 + 4 * gg; omega) rfl rfl
  rw [d1, q_bI, if_pos rfl, t1, q_bV] at hX
  rw [d2, q_bI, if_neg (by decide), v1, q_bI] at hM
  exact ⟨_, _, _, hX.trans u1, hM, x0.j (kq_tr (SP_J t4) u2) v2⟩
/-! one way -/
theorem HB.w {h : Nat → Nat} (hb : HB h) {d : Nat} (hd : d < h 3) : HB (uf h (15 + 3 * d) 1) := by
  have r2 := hb.r2
  have r3 := hb.r3
  refine ⟨?_, ?_, ?_, ?_, ?_, ?_, ?_, fun i hi => ?_, fun i hi => ?_, fun i hi => ?_, fun i hi => ?_, ?_⟩
  · rw [uf_o (by omega)]; exact hb.r0
  · rw [uf_o (by omega)]; exact hb.r1
  · rw [uf_o (by omega)]; exact hb.r2
  · rw [uf_o (by omega)]; exact hb.r3
  · rw [uf_o (by omega)]; exact hb.r4
  · rw [uf_o (by omega)]; exact hb.r5
  · rw [uf_o (by omega)]; exact hb.r6
  · rw [uf_o (by omega)] at hi
    rw [uf_o (by omega)]; exact hb.rm i hi
  · rw [uf_o (by omega)] at hi
    have dr := hb.dr i hi
    rw [uf_o (show 2 ≠ 15 + 3 * d by omega), uf_o (show 13 + 3 * i ≠ 15 + 3 * d by omega), uf_o (show 14 + 3 * i ≠ 15 + 3 * d by omega)]
    by_cases e : i = d
    · subst e; rw [uf_s]; exact ⟨dr.1, dr.2.1, dr.2.2.1, Nat.le_refl _⟩
    · rw [uf_o (by omega)]; exact dr
  · rw [uf_o (by omega)] at hi
    rw [uf_o (by omega), uf_o (by omega), uf_o (by omega)]; exact hb.pc i hi
  · rw [uf_o (by omega)] at hi
    rw [uf_o (by omega), uf_o (by omega), uf_o (by omega), uf_o (by omega)]; exact hb.gr i hi
  · rw [uf_o (by omega), uf_o (by omega), sm_c (h := h) (h 5) (fun gg _ => uf_o (by omega))]; exact hb.su
theorem XP.uw {k : Nat} {h mt lw : Nat → Nat} (hb : HB h) {a : mx_S} (x : XP k h mt lw a) {d : Nat} (hd : d < h 3) : XP k (uf h (15 + 3 * d) 1) mt lw (mx_up a k 5 d 1) := by
  have r2 := hb.r2
  have r3 := hb.r3
  refine ⟨?_, ?_, ?_, ?_, ?_, ?_, ?_, fun i hi => ?_, fun i hi => ?_, fun i hi => ?_, fun i hi => ?_⟩
  · rw [uf_o (by omega), q_uo (by decide)]; exact x.f0
  · rw [uf_o (by omega), q_uo (by decide)]; exact x.f1
  · rw [uf_o (by omega), q_uo (by decide)]; exact x.f2
  · rw [uf_o (by omega), q_uo (by decide)]; exact x.f4
  · rw [uf_o (by omega), q_uo (by decide)]; exact x.f8
  · rw [uf_o (by omega), q_uo (by decide)]; exact x.f12
  · rw [uf_o (by omega), q_uo (by decide)]; exact x.f17
  · rw [uf_o (by omega)] at hi
    rw [uf_o (by omega), q_uo (by decide)]; exact x.rm i hi
  · rw [uf_o (by omega)] at hi
    obtain ⟨g1, g2, g3⟩ := x.dr i hi
    rw [uf_o (show 13 + 3 * i ≠ 15 + 3 * d by omega), uf_o (show 14 + 3 * i ≠ 15 + 3 * d by omega)]
    refine ⟨by rw [q_uo (by decide)]; exact g1, by rw [q_uo (by decide)]; exact g2, ?_⟩
    by_cases e : i = d
    · subst e; rw [uf_s, q_us]; rfl
    · rw [uf_o (by omega), q_uj e]; exact g3
  · rw [uf_o (by omega)] at hi
    rw [uf_o (by omega), uf_o (by omega), ← (x.pc i hi).1, ← (x.pc i hi).2.1, ← (x.pc i hi).2.2]
    simp [q_up]
  · rw [uf_o (by omega)] at hi
    rw [uf_o (by omega), uf_o (by omega), uf_o (by omega), ← (x.gr i hi).1, ← (x.gr i hi).2.1, ← (x.gr i hi).2.2.1, ← (x.gr i hi).2.2.2]
    simp [q_up]
theorem HB.me {h : Nat → Nat} (hb : HB h) {D : Nat → Nat → Nat} {b : mx_S} (m : MH 43 h b) (f : MF D b) (e1 : b 0 39 21 = -1) (e2 : b 0 39 22 = -1) : ME h (mt0 h) (lw0 h) D b := by
  have h4 := hb.r4
  refine ⟨m, f, fun gg hg => ?_, fun p hp => Or.inr ⟨?_, rfl⟩⟩
  · rw [e1]
    exact ⟨(hb.gr gg hg).2.2.2.1, Or.inl ⟨by decide, rfl⟩⟩
  · rw [e2]
    exact fun q => nI_m1 (by omega) q.symm
theorem iv_oneWay {a b : mx_S} (x : INV a b) (x1 x2 : Int32) : Alk INV 96 179 [mx_I x1, mx_I x2] a b := by
  obtain ⟨h, D, c, g, xh, mh⟩ := x.l
  have r3 := g.hb.r3
  have mh0 := mh.t0
  have x0 := x.t0
  have hX := e_X_oneWay x1 x2 a
  have hM := e_M_oneWay x1 x2 b
  rw [xh.p.f4] at hX
  rw [q_w, q_gl (by decide) (by decide), mh0.m 3 (by decide)] at hM
  rcases q_ix x1 (n := h 3) (by omega) with q | ⟨d, hd, rfl⟩
  · rw [x_bel0 (by omega) q, q_bI, if_pos rfl] at hX
    rw [m_in0 (by omega) q, q_bI, if_pos rfl] at hM
    exact ⟨_, _, _, hX, hM, x0⟩
  rw [x_bel1 (by omega) hd, q_bI, if_neg (by decide)] at hX
  rw [m_in1 (by omega) hd, q_bI, if_neg (by decide)] at hM
  by_cases q : x2.toInt < 1 ∨ 120 < x2.toInt
  · rw [(day0 q a b).1, q_bI, if_neg (by decide)] at hX
    rw [(day0 q a _).2, q_bI, if_pos rfl] at hM
    exact ⟨_, _, _, hX, hM, x0⟩
  obtain ⟨d1, d2, n, hn, rfl⟩ := day1 q
  obtain ⟨p2, p4, p6⟩ := g.n0 (g.n5 (Or.inl (by omega)))
  have hb' := g.hb.w hd
  have eo : ∀ j, j ≠ 15 + 3 * d → uf h (15 + 3 * d) 1 j = h j := fun j hj => uf_o hj
  have emt : mt0 (uf h (15 + 3 * d) 1) = mt0 h := by
    funext p
    unfold mt0
    rw [eo _ (by omega)]
  have elw : ∀ gg, 1 ≤ gg + 1 → lw0 (uf h (15 + 3 * d) 1) gg = lw0 h gg := fun gg _ => by
    unfold lw0
    rw [eo _ (by omega)]
  have elw2 : lw0 (uf h (15 + 3 * d) 1) = lw0 h := funext fun gg => elw gg (by omega)
  obtain ⟨a1, t1, t2, t3, t4, -⟩ := trial g.hb xh
  obtain ⟨a2, u1, u2⟩ := s_xday g.hb p2 p6 g.hD g.lw hn 0 0 t2 t3
  have hx2 := (t2.b u2).uw g.hb hd
  obtain ⟨D1, a3, w1, w2, w3, w4⟩ := s_measure hb' hx2
  obtain ⟨b2, v1, v2⟩ := s_mday g.hb p2 g.hD hn 0 (g.me mh0.m mh0.f x0.e.1 x0.e.2.1) (DN.i x0.e.2.2)
  have gx : ∀ (f : Nat → Option mx_Rt), mx_g none ((13 : Int32) + (3 : Int32) * nI d + 2) 80 f = f (15 + 3 * d) := fun f => q_gx (by rw [q_lit, q_lit, q_lit, q_mul, q_add, q_add]; congr 1; show 13 + 3 * d + 2 = 15 + 3 * d; omega) (by omega) (by decide)
  have qb2 : ∀ k o j, ¬ S458 1 k o j → b2 k o j = mx_up b 0 39 0 0 k o j := v2
  have n43 : ∀ k o j, o = 39 ∨ o = 43 ∨ o = 47 → ¬ S458 1 k o j := fun k o j ho z => by rcases z with z | z <;> omega
  have m2 : MH 43 h b2 := mh0.m.k (fun j => qb2 0 43 j (n43 _ _ _ (by omega)))
  have m3 : MH 43 (uf h (15 + 3 * d) 1) (mx_up b2 0 43 (15 + 3 * d) 1) := m2.up (15 + 3 * d) 1
  obtain ⟨D2, b3, y1, y2, y3, y4⟩ := s_layFar hb' (show 1 ≤ uf h (15 + 3 * d) 1 2 by rw [eo _ (by omega)]; exact p2) m3
  have q3 : ∀ k o j, ¬ o = 47 → b3 k o j = mx_up b2 0 43 (15 + 3 * d) 1 k o j := fun k o j z => y4 k o j z
  have m3' : MH 43 (uf h (15 + 3 * d) 1) b3 := m3.k (fun j => q3 0 43 j (by decide))
  have e39 : ∀ j, b3 0 39 j = mx_up b 0 39 0 0 0 39 j := fun j => by rw [q3 0 39 j (by decide), q_uo (by decide), qb2 0 39 j (n43 _ _ _ (by omega))]
  obtain ⟨b4, z1, z2⟩ := s_mday hb' (show 1 ≤ uf h (15 + 3 * d) 1 2 by rw [eo _ (by omega)]; exact p2) y2 hn 0 (hb'.me m3' y3 (by rw [e39]; exact x0.e.1) (by rw [e39]; exact x0.e.2.1)) (DN.i (by rw [e39]; exact x0.e.2.2))
  have hx3 : XP 1 (uf h (15 + 3 * d) 1) (mt0 (uf h (15 + 3 * d) 1)) (lw0 (uf h (15 + 3 * d) 1)) a3 := by
    rw [emt, elw2]
    exact hx2.w w4
  obtain ⟨a4, s1, s2⟩ := s_xday hb' (show 1 ≤ uf h (15 + 3 * d) 1 2 by rw [eo _ (by omega)]; exact p2) (show 1 ≤ uf h (15 + 3 * d) 1 6 by rw [eo _ (by omega)]; exact p6) y2 (fun gg hg => (hb'.gr gg hg).2.2.2.1) hn 0 0 hx3 (w3.d w2 y2)
  have q4 : ∀ k o j, ¬ S458 1 k o j → ¬ o = 47 → ¬ (k = 0 ∧ o = 43 ∧ j = 15 + 3 * d) → b4 k o j = mx_up b 0 39 0 0 k o j := fun k o j z1' z2' z3' => by rw [z2 k o j z1', q3 k o j z2', q_up, if_neg z3', qb2 k o j z1']
  have m5 : MH 43 h (mx_up b4 0 43 (15 + 3 * d) (b2 0 43 (15 + 3 * d))) := fun i hi => by
    by_cases e : i = 15 + 3 * d
    · rw [e, q_us]; exact m2 _ (by omega)
    · rw [q_uj e, q4 0 43 i (n43 _ _ _ (by omega)) (by decide) (fun z => e z.2.2)]; exact mh0.m i hi
  obtain ⟨D3, b5, k1, k2, k3, k4⟩ := s_layFar g.hb p2 m5
  have q5 : ∀ k o j, ¬ S458 1 k o j → ¬ o = 47 → b5 k o j = mx_up b 0 39 0 0 k o j := fun k o j z1' z2' => by
    rw [k4 k o j z2']
    by_cases e : k = 0 ∧ o = 43 ∧ j = 15 + 3 * d
    · rw [e.1, e.2.1, e.2.2, q_us]; exact qb2 0 43 _ (n43 _ _ _ (by omega))
    · rw [q_up, if_neg e]; exact q4 k o j z1' z2' e
  rw [d1, q_bI, if_pos rfl, t1, q_bV, u1, q_bI, q_g (show d < 9 by omega) (by decide), q_w, w1, q_bV, s1, q_bI] at hX
  rw [d2, q_bI, if_neg (by decide), v1, q_bI, gx, gx, q_w, y1, q_bV, z1, q_bI, gx, q_w, k1, q_bV] at hM
  have kA : kq JX a a4 := kq_tr (SP_J t4) (kq_tr (SXb_J u2) (kq_tr (kq_up kq_rf (Or.inl ⟨rfl, by omega⟩)) (kq_tr (kq_mono w4 (fun k o j z => Or.inl ⟨z.1, by have := z.2; omega⟩)) (SXb_J s2))))
  have e7 : b5 0 39 7 = mx_up b 0 39 0 0 0 39 7 := q5 0 39 7 (n43 _ _ _ (by omega)) (by decide)
  have xh4 : XH 0 h D c a4 := xh.k (fun o j q1 q2 => kA 0 o j (by unfold JX; omega))
  refine ⟨_, a4, b5, hX, hM, x0.lv ⟨h, D3, c, g.d k2, xh4.d g k2, ⟨mh0.m.k (fun j => q5 0 43 j (n43 _ _ _ (by omega)) (by decide)), k3, mh0.c.k (fun j => q5 0 45 j (fun z => by rcases z with z | z <;> omega) (by decide)), by rw [e7]; exact mh0.t⟩⟩ (kq_mono kA (fun _ _ _ z => Or.inl z)) (fun k o j z => q5 k o j (fun w => z (by unfold JML JM; rcases w with w | w <;> omega)) (fun w => z (by unfold JML; omega))) (Or.inl e7)⟩
