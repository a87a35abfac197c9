/-! ===== foretold: seen, fire, rails and guards, tickets ===== -/
theorem day0 {x : Int32} (q : x.toInt < 1 ∨ 120 < x.toInt) (a b : mx_S) : mx_sem 75 [mx_I x] a = some (some (mx_I 1), a) ∧ mx_sem 147 [mx_I x] b = some (some (mx_I 0), b) := by
  have e1 : (1 : Int32).toInt = 1 := rfl
  have e2 : (120 : Int32).toInt = 120 := rfl
  have l1 : (1 : Int64).toInt = 1 := rfl
  have l2 : (120 : Int64).toInt = 120 := rfl
  refine ⟨?_, ?_⟩
  · rw [e_X_noDay, s_within1 x 1 120 (by omega), q_bI]; rfl
  · rw [e_M_isLong, s_in1 _ _ _ (by rw [q_wide]; omega), q_bI]; rfl
theorem day1 {x : Int32} (q : ¬ (x.toInt < 1 ∨ 120 < x.toInt)) : (∀ a : mx_S, mx_sem 75 [mx_I x] a = some (some (mx_I 0), a)) ∧ (∀ b : mx_S, mx_sem 147 [mx_I x] b = some (some (mx_I 1), b)) ∧ ∃ n : Nat, n ≤ 120 ∧ x = nI n := by
  have e1 : (1 : Int32).toInt = 1 := rfl
  have e2 : (120 : Int32).toInt = 120 := rfl
  have l1 : (1 : Int64).toInt = 1 := rfl
  have l2 : (120 : Int64).toInt = 120 := rfl
  refine ⟨fun a => ?_, fun b => ?_, x.toInt.toNat, by omega, q_of (by omega)⟩
  · rw [e_X_noDay, s_within2 x 1 120 (by omega) (by omega), q_bI]; rfl
  · rw [e_M_isLong, s_in2 _ _ _ (by rw [q_wide]; omega) (by rw [q_wide]; omega), q_bI]; rfl
theorem SP_J {a a' : mx_S} (e : kq (SP 1) a a') : kq JX a a' := kq_mono e (fun k o j q => Or.inl ⟨q.1, by have := q.2; omega⟩)
theorem SXb_J {a a' : mx_S} (e : kq (SXb 1) a a') : kq JX a a' := kq_mono e (fun k o j q => Or.inl ⟨q.1, by have := q.2; omega⟩)
theorem S458_J {b b' : mx_S} (e : kq (S458 1) b b') : kq JM b b' := kq_mono e (fun k o j q => by
  unfold JM
  rcases q with q | q <;> omega)
theorem trial {h : Nat → Nat} {D : Nat → Nat → Nat} {c : Cr} {a : mx_S} (hb : HB h) (xh : XH 0 h D c a) : ∃ a1, mx_sem 34 [mx_R 1 0, mx_R 0 0] a = some (none, a1) ∧ XP 1 h (mt0 h) (lw0 h) a1 ∧ XW 1 (h 2) D a1 ∧ kq (SP 1) a a1 ∧ TK 1 0 a a1 := by
  obtain ⟨a1, t1, t2, t3⟩ := s_takePlan (k0 := 1) (k1 := 0) (by decide) a
  exact ⟨a1, t1, t2.x hb xh.p, t2.xw hb.r2 xh.w, t3, t2⟩
theorem DN.i {b : mx_S} (h : b 0 39 23 = -1) : DN 0 b := Or.inr ⟨by rw [h]; decide, rfl⟩
theorem iv_seen {a b : mx_S} (x : INV a b) (x1 x2 : Int32) : Alk INV 103 185 [mx_I x1, mx_I x2] a b := by
  obtain ⟨h, D, c, g, xh, mh⟩ := x.l
  have mh0 := mh.t0
  have x0 := x.t0
  have hX := e_X_seen x1 x2 a
  have hM := e_M_seen x1 x2 b
  rw [q_w, mh0.t] at hM
  by_cases h0 : h 2 = 0
  · rw [x_nh0 xh.p h0, q_bI, if_neg (by decide)] at hX
    rw [if_pos h0, if_pos rfl] at hM
    exact ⟨_, _, _, hX, hM, x0⟩
  rw [x_nh1 g.hb xh.p h0, q_bI, if_pos rfl] at hX
  rw [if_neg h0, if_neg (by decide)] at hM
  by_cases q : x1.toInt < 1 ∨ 120 < x1.toInt
  · rw [(day0 q a b).1, q_bI, if_neg (by decide)] at hX
    rw [(day0 q a _).2, q_bI, if_pos rfl] at hM
    exact ⟨_, _, _, hX, hM, x0⟩
  obtain ⟨d1, d2, n, hn, rfl⟩ := day1 q
  rw [d1, q_bI, if_pos rfl] at hX
  rw [d2, q_bI, if_neg (by decide)] at hM
  have l2 : (2 : Int64).toInt = 2 := rfl
  have l0 : (0 : Int64).toInt = 0 := rfl
  by_cases q2 : x2.toInt < 0 ∨ (3 : Int) ≤ x2.toInt
  · rw [s_below1 x2 3 3 rfl q2, q_bI, if_pos rfl] at hX
    rw [s_in1 _ _ _ (by rw [q_wide]; omega), q_bI, if_pos rfl] at hM
    exact ⟨_, _, _, hX, hM, x0⟩
  obtain ⟨p4, p6⟩ : 1 ≤ h 4 ∧ 1 ≤ h 6 := by
    rcases g.nz with z | z
    · exact absurd z.1 h0
    · exact z
  obtain ⟨a1, t1, t2, t3, t4, -⟩ := trial g.hb xh
  obtain ⟨a2, u1, u2⟩ := s_xday g.hb (show 1 ≤ h 2 by omega) p6 g.hD g.lw hn x2 0 t2 t3
  obtain ⟨b2, v1, v2⟩ := s_mday g.hb (show 1 ≤ h 2 by omega) g.hD hn x2 (g.me mh0.m mh0.f x0.e.1 x0.e.2.1) (DN.i x0.e.2.2)
  rw [s_below2 x2 3 3 rfl (by omega) (by omega), q_bI, if_neg (by decide), t1, q_bV, u1, q_bI] at hX
  rw [s_in2 _ _ _ (by rw [q_wide]; omega) (by rw [q_wide]; omega), q_bI, if_neg (by decide), v1, q_bI] at hM
  exact ⟨_, _, _, hX, hM, x0.j (kq_tr (SP_J t4) (SXb_J u2)) (S458_J v2)⟩
/-! fire -/
theorem fire_l {h : Nat → Nat} {D : Nat → Nat → Nat} {c : Cr} {a b : mx_S} (g : GH h D c) (h1 : 1 ≤ h 2) (xh : XH 0 h D c a) (m : MH 43 h b) (f : MF D b) (hc : MC 0 c b) : ∀ (d v m1 : Nat), v + d = h 6 → m1 ≤ 1000 → ∃ z, mx_H 88 10 [some (mx_R 0 28), some (mx_I (nI m1)), some (mx_I (nI v)), none, none] a = some (some (mx_I z), a) ∧ mx_H 160 13 [some (mx_R 0 39), some (mx_I (nI m1)), some (mx_I (nI v)), none, none] b = some (some (mx_I z), b) := by
  have h6 := g.hb.r6
  have h2 := g.hb.r2
  intro d
  induction d with
  | zero =>
    intro v m1 hd hm1
    have ev : v = h 6 := by omega
    subst ev
    refine ⟨nI m1, ?_, ?_⟩
    · rw [e_X_fire_10, xh.p.f17, if_pos ((q_leN (by omega) (by omega)).mpr (Nat.le_refl _))]
    · rw [e_M_fire_13, q_gl (by decide) (by decide), m 6 (by decide), if_pos ((q_leN (by omega) (by omega)).mpr (Nat.le_refl _))]
  | succ d ih =>
    intro v m1 hd hm1
    have hv : v < h 6 := by omega
    have hX := e_X_fire_10 (nI m1) (nI v) a
    have hM := e_M_fire_13 (nI m1) (nI v) b
    have hlt : ¬ nI (h 6) ≤ nI v := by rw [q_leN (by omega) (by omega)]; omega
    rw [xh.p.f17, if_neg hlt, q_g (show v < 30 by omega) (by decide), xh.b.pl v hv, nI_1] at hX
    rw [q_gl (by decide) (by decide), m 6 (by decide), if_neg hlt, g14 (i := 0) (show v < 30 by omega) (by decide) (by rfl), show 14 * v + 0 = 14 * v from rfl, hc _ (by omega)] at hM
    have neg : c (14 * v) = -1 ∨ c (14 * v) = -2 → ∃ z, mx_H 88 10 [some (mx_R 0 28), some (mx_I (nI m1)), some (mx_I (nI v)), none, none] a = some (some (mx_I z), a) ∧ mx_H 160 13 [some (mx_R 0 39), some (mx_I (nI m1)), some (mx_I (nI v)), none, none] b = some (some (mx_I z), b) := by
      intro hq
      have hn : ¬ 0 ≤ c (14 * v) := by rcases hq with q | q <;> (rw [q]; decide)
      rw [if_neg hn] at hX hM
      rw [if_pos (show (-1 : Int32) + 1 ≤ nI m1 from q_le0 (by omega)), nI_1] at hM
      obtain ⟨z, z1, z2⟩ := ih (v + 1) m1 (by omega) hm1
      exact ⟨z, hX.trans z1, hM.trans z2⟩
    rcases g.cb.pl v hv with q | q | ⟨r, hr, q⟩
    · exact neg (Or.inl q)
    · exact neg (Or.inr q)
    · have l := (g.hD r 0 hr (by omega)).1
      have eX := xh.w.1 r 0 hr (by omega)
      have eM := f r 0 (by omega) (by omega)
      rw [Nat.add_zero] at eX eM
      rw [q, if_pos (q_le0 (by omega)), q_gx (n := r * 6) (by rw [q_lit, q_mul]) (by omega) (by decide), eX] at hX
      rw [q, if_pos (q_le0 (by omega)), q_gx (n := 6 * r) (by rw [q_lit, q_mul]) (by omega) (by decide), eM] at hM
      by_cases w : D r 0 = 1000
      · rw [if_pos (by rw [w]; rfl)] at hX
        rw [if_pos ((fv_no l).mpr w)] at hM
        exact ⟨_, hX, hM⟩
      · rw [if_neg (by rw [q_lit, q_eqN (by omega) (by decide)]; exact w), nI_1] at hX
        rw [if_neg (fun z => w ((fv_no l).mp z)), fv_lt (by omega), nI_1, nI_1] at hM
        by_cases y : D r 0 + 1 ≤ m1
        · rw [if_neg (by rw [q_ltN (by omega) (by omega)]; omega)] at hX
          rw [if_pos ((q_leN (by omega) (by omega)).mpr y)] at hM
          obtain ⟨z, z1, z2⟩ := ih (v + 1) m1 (by omega) hm1
          exact ⟨z, hX.trans z1, hM.trans z2⟩
        · rw [if_pos ((q_ltN (by omega) (by omega)).mpr (by omega))] at hX
          rw [if_neg (by rw [q_leN (by omega) (by omega)]; exact y)] at hM
          obtain ⟨z, z1, z2⟩ := ih (v + 1) (D r 0 + 1) (by omega) (by omega)
          exact ⟨z, hX.trans z1, hM.trans z2⟩
theorem iv_fire {a b : mx_S} (x : INV a b) : Alk INV 88 160 [] a b := by
  obtain ⟨h, D, c, g, xh, mh⟩ := x.l
  have mh0 := mh.t0
  have x0 := x.t0
  have hX := e_X_fire a
  have hM := e_M_fire b
  rw [q_w, mh0.t] at hM
  by_cases h0 : h 2 = 0
  · rw [x_nh0 xh.p h0, q_bI, if_neg (by decide)] at hX
    rw [if_pos h0, if_pos rfl] at hM
    exact ⟨_, _, _, hX, hM, x0⟩
  rw [x_nh1 g.hb xh.p h0, q_bI, if_pos rfl] at hX
  rw [if_neg h0, if_neg (by decide)] at hM
  obtain ⟨z, z1, z2⟩ := fire_l g (show 1 ≤ h 2 by omega) xh mh0.m mh0.f mh0.c (h 6) 0 0 (by omega) (by omega)
  exact ⟨z, _, _, hX.trans z1, hM.trans z2, x0⟩
/-! the best of some -/
def bst (F : Nat → Int32) : Nat → Nat → Int32 → Int32 → Int32
  | 0, _, best, _ => best
  | d + 1, v, best, most => if F v ≤ most then bst F d (v + 1) best most else bst F d (v + 1) (nI v) (F v)
def Fdv (w : Int32) (h mt lw : Nat → Nat) (D : Nat → Nat → Nat) (n pl v : Nat) : Int32 := seenV w (itC (uf h pl v) mt lw D n (c0 (uf h pl v) 0 (uf h pl v 6))) (uf h pl v 6)
/-- what the changed place must keep -/
def PK (h : Nat → Nat) (D : Nat → Nat → Nat) (pl lo hi : Nat) : Prop :=
  (∀ v, lo ≤ v → v ≤ hi → HB (uf h pl v)) ∧ (∀ v, DS (uf h pl v) D) ∧ (pl < 80 ∧ pl ≠ 2 ∧ pl ≠ 4 ∧ pl ≠ 5 ∧ pl ≠ 6 ∧ (∀ p, p < 8 → pl ≠ 41 + 2 * p) ∧ (∀ g, g < 6 → pl ≠ 58 + 4 * g))
theorem PK.hb {h : Nat → Nat} {D : Nat → Nat → Nat} {pl lo hi : Nat} (x_ : PK h D pl lo hi) : ∀ v, lo ≤ v → v ≤ hi → HB (uf h pl v) := x_.1
theorem PK.hD {h : Nat → Nat} {D : Nat → Nat → Nat} {pl lo hi : Nat} (x_ : PK h D pl lo hi) : ∀ v, DS (uf h pl v) D := x_.2.1
theorem PK.o {h : Nat → Nat} {D : Nat → Nat → Nat} {pl lo hi : Nat} (x_ : PK h D pl lo hi) : pl < 80 ∧ pl ≠ 2 ∧ pl ≠ 4 ∧ pl ≠ 5 ∧ pl ≠ 6 ∧ (∀ p, p < 8 → pl ≠ 41 + 2 * p) ∧ (∀ g, g < 6 → pl ≠ 58 + 4 * g) := x_.2.2
theorem s_bestAt12 {h : Nat → Nat} {D : Nat → Nat → Nat} {c : Cr} (g : GH h D c) (h1 : 1 ≤ h 2) {pl lo hi : Nat} (pk : PK h D pl lo hi) (hh : hi < 1000) {n : Nat} (hn : n ≤ 120) {w was : Int32} {s0 : mx_S} (me : ME h (mt0 h) (lw0 h) D s0) (dn : s0 0 39 23 = -1) : ∀ (d v : Nat) (best most : Int32) (s : mx_S), v + d = hi + 1 → lo ≤ v → (∀ k o j, ¬ S458 1 k o j → ¬ (k = 0 ∧ o = 43 ∧ j = pl) → s k o j = s0 k o j) → ∃ s', mx_H 146 12 [some (mx_R 0 39), some (mx_I (nI pl)), none, some (mx_I (nI hi)), some (mx_I (nI n)), some (mx_I w), some (mx_I was), some (mx_I best), some (mx_I most), some (mx_I (nI v)), none] s = some (some (mx_I (bst (Fdv w h (mt0 h) (lw0 h) D n pl) d v best most)), s') ∧ s' 0 43 pl = was ∧ (∀ k o j, ¬ S458 1 k o j → ¬ (k = 0 ∧ o = 43 ∧ j = pl) → s' k o j = s0 k o j) := by
  obtain ⟨p80, p2, p4, p5, p6, p41, p58⟩ := pk.o
  have h4 := g.hb.r4
  have h5 := g.hb.r5
  intro d
  induction d with
  | zero =>
    intro v best most s hd hlo he
    have hX := e_M_bestAt_12 (nI pl) (nI hi) (nI n) w was best most (nI v) s
    rw [if_pos ((q_ltN (by omega) (by omega)).mpr (by omega)), q_g p80 (by decide), q_w] at hX
    refine ⟨_, hX, q_us, fun k o j q1 q2 => ?_⟩
    rw [q_up, if_neg q2]
    exact he k o j q1 q2
  | succ d ih =>
    intro v best most s hd hlo he
    have hX := e_M_bestAt_12 (nI pl) (nI hi) (nI n) w was best most (nI v) s
    rw [if_neg (by rw [q_ltN (by omega) (by omega)]; omega), q_g p80 (by decide), q_w] at hX
    have he1 : ∀ k o j, ¬ S458 1 k o j → ¬ (k = 0 ∧ o = 43 ∧ j = pl) → mx_up s 0 43 pl (nI v) k o j = s0 k o j := fun k o j q1 q2 => by
      rw [q_up, if_neg q2]
      exact he k o j q1 q2
    have mv : ME (uf h pl v) (mt0 h) (lw0 h) D (mx_up s 0 43 pl (nI v)) := by
      refine ⟨fun i hi => ?_, fun y z hy hz => ?_, fun gg hg => ?_, fun p hp => ?_⟩
      · by_cases e : i = pl
        · subst e; rw [q_us, uf_s]
        · rw [he1 0 43 i (fun q => by rcases q with q | q <;> omega) (fun q => e q.2.2), uf_o e]
          exact me.m i hi
      · rw [he1 0 47 _ (fun q => by rcases q with q | q <;> omega) (by omega)]; exact me.f y z hy hz
      · rw [uf_o (show 5 ≠ pl by omega)] at hg
        rw [he1 0 39 21 (fun q => by rcases q with q | q <;> omega) (by omega), uf_o (show 58 + 4 * gg ≠ pl from fun q => p58 gg (by omega) q.symm)]
        exact me.l gg hg
      · rw [uf_o (show 4 ≠ pl by omega)] at hp
        rw [he1 0 39 22 (fun q => by rcases q with q | q <;> omega) (by omega), uf_o (show 41 + 2 * p ≠ pl from fun q => p41 p (by omega) q.symm)]
        exact me.t p hp
    obtain ⟨b2, v1, v2⟩ := s_mday (pk.hb v hlo (by omega)) (show 1 ≤ uf h pl v 2 by rw [uf_o (by omega)]; exact h1) (pk.hD v) hn w mv (DN.i (by rw [he1 0 39 23 (fun q => by rcases q with q | q <;> omega) (by omega)]; exact dn))
    have v1' : mx_sem 145 [mx_R 0 39, mx_I (nI n), mx_I w] (mx_up s 0 43 pl (nI v)) = some (some (mx_I (Fdv w h (mt0 h) (lw0 h) D n pl v)), b2) := v1
    have he2 : ∀ k o j, ¬ S458 1 k o j → ¬ (k = 0 ∧ o = 43 ∧ j = pl) → b2 k o j = s0 k o j := fun k o j q1 q2 => (v2 k o j q1).trans (he1 k o j q1 q2)
    rw [v1', q_bI, nI_1] at hX
    rw [show bst (Fdv w h (mt0 h) (lw0 h) D n pl) (d + 1) v best most = if Fdv w h (mt0 h) (lw0 h) D n pl v ≤ most then bst (Fdv w h (mt0 h) (lw0 h) D n pl) d (v + 1) best most else bst (Fdv w h (mt0 h) (lw0 h) D n pl) d (v + 1) (nI v) (Fdv w h (mt0 h) (lw0 h) D n pl v) from rfl]
    by_cases q : Fdv w h (mt0 h) (lw0 h) D n pl v ≤ most
    · rw [if_pos q, if_pos q] at hX
      rw [if_pos q]
      obtain ⟨s', y1, y2, y3⟩ := ih (v + 1) best most b2 (by omega) (by omega) he2
      exact ⟨s', hX.trans y1, y2, y3⟩
    · rw [if_neg q, if_neg q] at hX
      rw [if_neg q]
      obtain ⟨s', y1, y2, y3⟩ := ih (v + 1) (nI v) (Fdv w h (mt0 h) (lw0 h) D n pl v) b2 (by omega) (by omega) he2
      exact ⟨s', hX.trans y1, y2, y3⟩
theorem s_bestAt {h : Nat → Nat} {D : Nat → Nat → Nat} {c : Cr} (g : GH h D c) (h1 : 1 ≤ h 2) {pl lo hi : Nat} (pk : PK h D pl lo hi) (hh : hi < 1000) (hlh : lo ≤ hi) {n : Nat} (hn : n ≤ 120) (w : Int32) {b : mx_S} (me : ME h (mt0 h) (lw0 h) D b) (dn : b 0 39 23 = -1) {x1 x2 x3 : Int32} (e1 : x1 = nI pl) (e2 : x2 = nI lo) (e3 : x3 = nI hi) : ∃ b', mx_sem 146 [mx_R 0 39, mx_I x1, mx_I x2, mx_I x3, mx_I (nI n), mx_I w] b = some (some (mx_I (bst (Fdv w h (mt0 h) (lw0 h) D n pl) (hi + 1 - lo) lo (nI lo) (-1))), b') ∧ kq JM b b' := by
  subst e1 e2 e3
  have p80 := pk.o.1
  obtain ⟨b', y1, y2, y3⟩ := s_bestAt12 g h1 pk hh hn (w := w) (was := b 0 43 pl) me dn (hi + 1 - lo) lo (nI lo) (-1) b (by omega) (Nat.le_refl _) (fun _ _ _ _ _ => rfl)
  refine ⟨b', ?_, fun k o j q => ?_⟩
  · rw [e_M_bestAt, q_g p80 (by decide)]; exact y1
  · by_cases z : k = 0 ∧ o = 43 ∧ j = pl
    · rw [z.1, z.2.1, z.2.2]; exact y2
    · exact y3 k o j (fun w => q (by unfold JM; rcases w with w | w <;> omega)) z
theorem XP.u0 {k : Nat} {h mt lw : Nat → Nat} {a : mx_S} (x : XP k h mt lw a) (v : Nat) : XP k (uf h 0 v) mt lw (mx_up a k 1 0 (nI v)) := by
  have y := x.r (h' := uf h 0 v) (r := v) (g := h 1) uf_s (uf_o (by decide)) (fun j hj => uf_o (by omega))
  rw [← x.f1, q_ui (s := mx_up a k 1 0 (nI v)) (by rw [q_uj (by decide)])] at y
  exact y
theorem XP.u1 {k : Nat} {h mt lw : Nat → Nat} {a : mx_S} (x : XP k h mt lw a) (v : Nat) : XP k (uf h 1 v) mt lw (mx_up a k 1 1 (nI v)) := by
  have y := x.r (h' := uf h 1 v) (r := h 0) (g := v) (uf_o (by decide)) uf_s (fun j hj => uf_o (by omega))
  rw [← x.f0, q_ui (s := a) rfl] at y
  exact y
theorem uf_uf (h : Nat → Nat) (i u v : Nat) : uf (uf h i u) i v = uf h i v := by
  funext j
  unfold uf
  split <;> rfl
theorem uf_id (h : Nat → Nat) (i : Nat) : uf h i (h i) = h := by
  funext j
  unfold uf
  split
  · rename_i q; rw [q]
  · rfl
/-- a day of X's trial house, with one number changed -/
theorem x_dayv {h : Nat → Nat} {D : Nat → Nat → Nat} {c : Cr} (g : GH h D c) (h1 : 1 ≤ h 2) (p6 : 1 ≤ h 6) {pl lo hi : Nat} (pk : PK h D pl lo hi) {n : Nat} (hn : n ≤ 120) (w : Int32) {v : Nat} (hlo : lo ≤ v) (hhi : v ≤ hi) {a : mx_S} (hx : XP 1 (uf h pl v) (mt0 h) (lw0 h) a) (hw : XW 1 (h 2) D a) : ∃ a', mx_sem 31 [mx_R 1 0, mx_I (nI n), mx_I w, mx_I 0] a = some (some (mx_I (Fdv w h (mt0 h) (lw0 h) D n pl v)), a') ∧ kq (SXb 1) a a' := by
  obtain ⟨p80, p2, p4, p5, p6', p41, p58⟩ := pk.o
  exact s_xday (pk.hb v hlo hhi) (by rw [uf_o (by omega)]; exact h1) (by rw [uf_o (by omega)]; exact p6) (pk.hD v) (fun gg hg => by
    rw [uf_o (by omega)] at hg
    exact g.lw gg hg) hn w 0 hx (by rw [uf_o (by omega)]; exact hw)
theorem x_rail {h : Nat → Nat} {D : Nat → Nat → Nat} {c : Cr} (g : GH h D c) (h1 : 1 ≤ h 2) (p6 : 1 ≤ h 6) (pk : PK h D 0 1 20) {n : Nat} (hn : n ≤ 120) (w : Int32) : ∀ (d v u : Nat) (best most : Int32) (a : mx_S), v + d = 21 → 1 ≤ v → XP 1 (uf h 0 u) (mt0 h) (lw0 h) a → XW 1 (h 2) D a → ∃ a', mx_H 73 7 [some (mx_R 0 28), some (mx_I (nI n)), some (mx_I w), some (mx_I best), some (mx_I most), some (mx_I (nI v)), none] a = some (some (mx_I (bst (Fdv w h (mt0 h) (lw0 h) D n 0) d v best most)), a') ∧ kq JX a a' := by
  intro d
  induction d with
  | zero =>
    intro v u best most a hd hlo hx hw
    have ev : v = 21 := by omega
    subst ev
    refine ⟨a, ?_, kq_rf⟩
    rw [e_X_bestRail_7, if_pos (by decide)]; rfl
  | succ d ih =>
    intro v u best most a hd hlo hx hw
    have hX := e_X_bestRail_7 (nI n) w best most (nI v) a
    have k1 : kq JX a (mx_up a 1 1 0 (nI v)) := kq_up kq_rf (Or.inl ⟨rfl, by omega⟩)
    have hx1 := hx.u0 v
    rw [uf_uf] at hx1
    have hw1 : XW 1 (h 2) D (mx_up a 1 1 0 (nI v)) := hw.k (fun o j q1 q2 => by rw [q_uo (by omega)])
    obtain ⟨a2, y1, y2⟩ := x_dayv g h1 p6 pk hn w hlo (show v ≤ 20 by omega) hx1 hw1
    rw [if_neg (by rw [q_lit, q_ltN (by decide) (by omega)]; omega), q_w, y1, q_bI, nI_1] at hX
    rw [show bst (Fdv w h (mt0 h) (lw0 h) D n 0) (d + 1) v best most = if Fdv w h (mt0 h) (lw0 h) D n 0 v ≤ most then bst (Fdv w h (mt0 h) (lw0 h) D n 0) d (v + 1) best most else bst (Fdv w h (mt0 h) (lw0 h) D n 0) d (v + 1) (nI v) (Fdv w h (mt0 h) (lw0 h) D n 0 v) from rfl]
    have hx2 := hx1.b y2
    have hw2 := hw1.b y2
    by_cases q : Fdv w h (mt0 h) (lw0 h) D n 0 v ≤ most
    · rw [if_pos q] at hX ⊢
      obtain ⟨a', z1, z2⟩ := ih (v + 1) v best most a2 (by omega) (by omega) hx2 hw2
      exact ⟨a', hX.trans z1, kq_tr k1 (kq_tr (SXb_J y2) z2)⟩
    · rw [if_neg q] at hX ⊢
      obtain ⟨a', z1, z2⟩ := ih (v + 1) v (nI v) (Fdv w h (mt0 h) (lw0 h) D n 0 v) a2 (by omega) (by omega) hx2 hw2
      exact ⟨a', hX.trans z1, kq_tr k1 (kq_tr (SXb_J y2) z2)⟩
theorem x_guard {h : Nat → Nat} {D : Nat → Nat → Nat} {c : Cr} (g : GH h D c) (h1 : 1 ≤ h 2) (p6 : 1 ≤ h 6) (pk : PK h D 1 0 20) {n : Nat} (hn : n ≤ 120) (w : Int32) : ∀ (d v u : Nat) (best most : Int32) (a : mx_S), v + d = 21 → XP 1 (uf h 1 u) (mt0 h) (lw0 h) a → XW 1 (h 2) D a → ∃ a', mx_H 72 7 [some (mx_R 0 28), some (mx_I (nI n)), some (mx_I w), some (mx_I best), some (mx_I most), some (mx_I (nI v)), none] a = some (some (mx_I (bst (Fdv w h (mt0 h) (lw0 h) D n 1) d v best most)), a') ∧ kq JX a a' := by
  intro d
  induction d with
  | zero =>
    intro v u best most a hd hx hw
    have ev : v = 21 := by omega
    subst ev
    refine ⟨a, ?_, kq_rf⟩
    rw [e_X_bestGuard_7, if_pos (by decide)]; rfl
  | succ d ih =>
    intro v u best most a hd hx hw
    have hX := e_X_bestGuard_7 (nI n) w best most (nI v) a
    have k1 : kq JX a (mx_up a 1 1 1 (nI v)) := kq_up kq_rf (Or.inl ⟨rfl, by omega⟩)
    have hx1 := hx.u1 v
    rw [uf_uf] at hx1
    have hw1 : XW 1 (h 2) D (mx_up a 1 1 1 (nI v)) := hw.k (fun o j q1 q2 => by rw [q_uo (by omega)])
    obtain ⟨a2, y1, y2⟩ := x_dayv g h1 p6 pk hn w (Nat.zero_le v) (show v ≤ 20 by omega) hx1 hw1
    rw [if_neg (by rw [q_lit, q_ltN (by decide) (by omega)]; omega), q_w, y1, q_bI, nI_1] at hX
    rw [show bst (Fdv w h (mt0 h) (lw0 h) D n 1) (d + 1) v best most = if Fdv w h (mt0 h) (lw0 h) D n 1 v ≤ most then bst (Fdv w h (mt0 h) (lw0 h) D n 1) d (v + 1) best most else bst (Fdv w h (mt0 h) (lw0 h) D n 1) d (v + 1) (nI v) (Fdv w h (mt0 h) (lw0 h) D n 1 v) from rfl]
    have hx2 := hx1.b y2
    have hw2 := hw1.b y2
    by_cases q : Fdv w h (mt0 h) (lw0 h) D n 1 v ≤ most
    · rw [if_pos q] at hX ⊢
      obtain ⟨a', z1, z2⟩ := ih (v + 1) v best most a2 (by omega) hx2 hw2
      exact ⟨a', hX.trans z1, kq_tr k1 (kq_tr (SXb_J y2) z2)⟩
    · rw [if_neg q] at hX ⊢
      obtain ⟨a', z1, z2⟩ := ih (v + 1) v (nI v) (Fdv w h (mt0 h) (lw0 h) D n 1 v) a2 (by omega) hx2 hw2
      exact ⟨a', hX.trans z1, kq_tr k1 (kq_tr (SXb_J y2) z2)⟩
theorem pk_rail {h : Nat → Nat} {D : Nat → Nat → Nat} {c : Cr} (g : GH h D c) : PK h D 0 1 20 := ⟨fun v _ hv => g.hb.c (by rw [uf_s]; exact hv) (by rw [uf_o (by decide)]; exact g.hb.r1) (fun j hj => uf_o (by omega)), fun v => g.hD.c g.hb (uf_o (by decide)) (uf_o (by decide)) (fun i hi _ => uf_o (by omega)), by omega, by omega, by omega, by omega, by omega, fun p _ => by omega, fun gg _ => by omega⟩
theorem pk_guard {h : Nat → Nat} {D : Nat → Nat → Nat} {c : Cr} (g : GH h D c) : PK h D 1 0 20 := ⟨fun v _ hv => g.hb.c (by rw [uf_o (by decide)]; exact g.hb.r0) (by rw [uf_s]; exact hv) (fun j hj => uf_o (by omega)), fun v => g.hD.c g.hb (uf_o (by decide)) (uf_o (by decide)) (fun i hi _ => uf_o (by omega)), by omega, by omega, by omega, by omega, by omega, fun p _ => by omega, fun gg _ => by omega⟩
theorem iv_bestRule {a b : mx_S} (x : INV a b) (x1 x2 x3 : Int32) : Alk INV 76 148 [mx_I x1, mx_I x2, mx_I x3] a b := by
  obtain ⟨h, D, c, g, xh, mh⟩ := x.l
  have mh0 := mh.t0
  have x0 := x.t0
  have hX := e_X_bestRule x1 x2 x3 a
  have hM := e_M_bestRule x1 x2 x3 b
  rw [q_w, mh0.t] at hM
  by_cases h0 : h 2 = 0
  · rw [x_nh0 xh.p h0, q_bI, if_neg (by decide)] at hX
    rw [if_pos h0, if_pos rfl] at hM
    exact ⟨_, _, _, hX, hM, x0⟩
  rw [x_nh1 g.hb xh.p h0, q_bI, if_pos rfl] at hX
  rw [if_neg h0, if_neg (by decide)] at hM
  by_cases q : x1.toInt < 1 ∨ 120 < x1.toInt
  · rw [(day0 q a b).1, q_bI, if_neg (by decide)] at hX
    rw [(day0 q a _).2, q_bI, if_pos rfl] at hM
    exact ⟨_, _, _, hX, hM, x0⟩
  obtain ⟨d1, d2, n, hn, rfl⟩ := day1 q
  rw [d1, q_bI, if_pos rfl] at hX
  rw [d2, q_bI, if_neg (by decide)] at hM
  have l1 : (1 : Int64).toInt = 1 := rfl
  have l0 : (0 : Int64).toInt = 0 := rfl
  by_cases q2 : x2.toInt < 0 ∨ (2 : Int) ≤ x2.toInt
  · rw [s_below1 x2 2 2 rfl q2, q_bI, if_pos rfl] at hX
    rw [s_in1 _ _ _ (by rw [q_wide]; omega), q_bI, if_pos rfl] at hM
    exact ⟨_, _, _, hX, hM, x0⟩
  rw [s_below2 x2 2 2 rfl (by omega) (by omega), q_bI, if_neg (by decide)] at hX
  rw [s_in2 _ _ _ (by rw [q_wide]; omega) (by rw [q_wide]; omega), q_bI, if_neg (by decide)] at hM
  by_cases q3 : x3.toInt < 0 ∨ (2 : Int) ≤ x3.toInt
  · rw [s_below1 x3 2 2 rfl q3, q_bI, if_pos rfl] at hX
    rw [s_in1 _ _ _ (by rw [q_wide]; omega), q_bI, if_pos rfl] at hM
    exact ⟨_, _, _, hX, hM, x0⟩
  obtain ⟨p4, p6⟩ : 1 ≤ h 4 ∧ 1 ≤ h 6 := by
    rcases g.nz with z | z
    · exact absurd z.1 h0
    · exact z
  have p2 : 1 ≤ h 2 := by omega
  obtain ⟨a1, t1, t2, t3, t4, -⟩ := trial g.hb xh
  rw [s_below2 x3 2 2 rfl (by omega) (by omega), q_bI, if_neg (by decide), t1, q_bV] at hX
  rw [s_in2 _ _ _ (by rw [q_wide]; omega) (by rw [q_wide]; omega), q_bI, if_neg (by decide)] at hM
  have me := g.me mh0.m mh0.f x0.e.1 x0.e.2.1
  by_cases z : x2 = 0
  · obtain ⟨a2, u1, u2⟩ := x_rail g p2 p6 (pk_rail g) hn x3 20 1 (h 0) (nI 1) (-1) a1 (by omega) (by omega) (by rw [uf_id]; exact t2) t3
    obtain ⟨b2, v1, v2⟩ := s_bestAt g p2 (pk_rail g) (by decide) (by decide) hn x3 me x0.e.2.2 (x1 := 0) (x2 := 1) (x3 := 20) rfl rfl rfl
    have u1' : mx_sem 73 [mx_R 0 28, mx_I (nI n), mx_I x3] a1 = some (some (mx_I (bst (Fdv x3 h (mt0 h) (lw0 h) D n 0) 20 1 (nI 1) (-1))), a2) := (e_X_bestRail (nI n) x3 a1).trans u1
    rw [if_pos z, u1', q_bI] at hX
    rw [if_pos z, v1, q_bI] at hM
    exact ⟨_, _, _, hX, hM, x0.j (kq_tr (SP_J t4) u2) v2⟩
  · obtain ⟨a2, u1, u2⟩ := x_guard g p2 p6 (pk_guard g) hn x3 21 0 (h 1) (nI 0) (-1) a1 (by omega) (by rw [uf_id]; exact t2) t3
    obtain ⟨b2, v1, v2⟩ := s_bestAt g p2 (pk_guard g) (by decide) (by decide) hn x3 me x0.e.2.2 (x1 := 1) (x2 := 0) (x3 := 20) rfl rfl rfl
    have u1' : mx_sem 72 [mx_R 0 28, mx_I (nI n), mx_I x3] a1 = some (some (mx_I (bst (Fdv x3 h (mt0 h) (lw0 h) D n 1) 21 0 (nI 0) (-1))), a2) := (e_X_bestGuard (nI n) x3 a1).trans u1
    rw [if_neg z, u1', q_bI] at hX
    rw [if_neg z, v1, q_bI] at hM
    exact ⟨_, _, _, hX, hM, x0.j (kq_tr (SP_J t4) u2) v2⟩
