/-! ===== kinds, asks ===== -/
def kdF (c : Cr) (v : Nat) : Nat := if c (14 * v) = -2 then 5 else if c (14 * v + 5) = 1 then 1 else if c (14 * v + 5) = 2 then 2 else if c (14 * v + 5) = 3 then 4 else if c (14 * v) = -1 then 5 else 3
theorem kdF_ok (c : Cr) (v : Nat) : kdF c v = 1 ∨ kdF c v = 2 ∨ kdF c v = 3 ∨ kdF c v = 4 ∨ kdF c v = 5 := by
  unfold kdF
  repeat' split
  all_goals decide
theorem x_kind {h : Nat → Nat} (hb : HB h) {c : Cr} {a : mx_S} (x : XB 0 h c a) {v : Nat} (hv : v < h 6) : mx_sem 2 [mx_R 0 16, mx_I (nI v)] a = some (some (mx_I (nI (kdF c v))), a) := by
  have h6 := hb.r6
  have hX := e_C_kindOf 0 (nI v) a
  have i1 : Int32.ofNat 1 = 1 := rfl
  have i2 : Int32.ofNat 2 = 2 := rfl
  have i3 : Int32.ofNat 3 = 3 := rfl
  rw [q_g (show v < 30 by omega) (by decide), x.pl v hv, q_g (show v < 30 by omega) (by decide), x.la v hv, q_g (show v < 30 by omega) (by decide), x.pl v hv, i1, i2, i3] at hX
  rw [hX]
  unfold kdF
  repeat' split
  all_goals rfl
theorem m_kind {h : Nat → Nat} (hb : HB h) {c : Cr} (cd : CD h c) {b : mx_S} (x : MC 0 c b) {v : Nat} (hv : v < h 6) : mx_sem 117 [mx_R 0 39, mx_I (nI v)] b = some (some (mx_I (nI (kdF c v))), b) := by
  have h6 := hb.r6
  have hX := e_M_kindOf (nI v) b
  rw [g14 (i := 5) (show v < 30 by omega) (by decide) (by rfl), g14 (i := 0) (show v < 30 by omega) (by decide) (by rfl), show 14 * v + 0 = 14 * v from rfl, x _ (by omega), x _ (by omega)] at hX
  rw [hX]
  have cdv := cd v hv
  unfold kdF
  by_cases q1 : c (14 * v) = -2
  · rw [if_pos q1, if_pos q1]; rfl
  · rw [if_neg q1, if_neg q1]
    by_cases q2 : c (14 * v) = -1
    · rw [if_pos q2]
      rcases cdv q2 with z | z
      · rw [z, if_neg (by decide), if_neg (by decide), if_neg (by decide), if_neg (by decide), if_pos q2]; rfl
      · rw [z, if_pos rfl, if_neg (by decide), if_neg (by decide), if_pos rfl, if_neg (by decide), if_neg (by decide), if_pos rfl]; rfl
    · rw [if_neg q2]
      repeat' split
      all_goals rfl
theorem iv_kind {a b : mx_S} (x : INV a b) (x1 : Int32) : Alk INV 95 178 [mx_I x1] a b := by
  obtain ⟨h, D, c, g, xh, mh⟩ := x.l
  have h6 := g.hb.r6
  have mh0 := mh.t0
  have hX := e_X_kind x1 a
  have hM := e_M_kind x1 b
  rw [q_w] at hM
  rcases q_ix x1 (n := h 6) (by omega) with q | ⟨v, hv, rfl⟩
  · rw [x_vis0 g.hb xh.p q, q_bI, if_neg (by decide)] at hX
    rw [m_vis0 g.hb mh0.m q, q_bI, if_pos rfl] at hM
    exact ⟨_, _, _, hX, hM, x.t0⟩
  · rw [x_vis1 g.hb xh.p hv, q_bI, if_pos rfl, x_kind g.hb xh.b hv, q_bI] at hX
    rw [m_vis1 g.hb mh0.m hv, q_bI, if_neg (by decide), m_kind g.hb g.cd mh0.c hv, q_bI] at hM
    exact ⟨_, _, _, hX, hM, x.t0⟩
theorem INV.st {a b : mx_S} (x : INV a b) (y : Int32) {b' : mx_S} (e : ∀ k o j, ¬ (o = 39 ∧ j ≤ 1) → b' k o j = b k o j) (e1 : b' 0 39 1 = y) : INV (mx_up a 0 28 9 y) b' := by
  refine x.rows ⟨x.r.k (fun k o j ho => by rw [q_up, if_neg (by omega)]) (fun o j ho => e 0 o j (by omega)), ?_, kpX_up kpX_rf (by omega), fun k o j h1 h2 h3 h4 h5 => e k o j (by omega)⟩
  unfold IS
  rw [q_us, e1]
theorem iv_as {a b : mx_S} (x : INV a b) (x1 x2 : Int32) : Alk INV 70 120 [mx_I x1, mx_I x2] a b := by
  obtain ⟨h, D, c, g, xh, mh⟩ := x.l
  have h6 := g.hb.r6
  have mh0 := mh.t0
  have hX := e_X_as x1 x2 a
  have hM := e_M_as x1 x2 b
  rw [q_w] at hM
  rcases q_ix x1 (n := h 6) (by omega) with q | ⟨v, hv, rfl⟩
  · rw [x_vis0 g.hb xh.p q, q_bI, if_neg (by decide)] at hX
    rw [m_vis0 g.hb mh0.m q, q_bI, if_pos rfl] at hM
    exact ⟨_, _, _, hX, hM, x.t0⟩
  have e5 : (5 : Int32).toInt = 5 := rfl
  have e0 : (0 : Int32).toInt = 0 := rfl
  have l5 : (5 : Int64).toInt = 5 := rfl
  have l0 : (0 : Int64).toInt = 0 := rfl
  rw [x_vis1 g.hb xh.p hv, q_bI, if_pos rfl] at hX
  rw [m_vis1 g.hb mh0.m hv, q_bI, if_neg (by decide)] at hM
  by_cases q : x2.toInt < 0 ∨ 5 < x2.toInt
  · rw [s_within1 x2 0 5 (by omega), q_bI, if_pos rfl] at hX
    rw [s_in1 _ _ _ (by rw [q_wide]; omega), q_bI, if_pos rfl] at hM
    exact ⟨_, _, _, hX, hM, x.t0⟩
  have mc1 : MC 0 c (mx_up (mx_up b 0 39 0 0) 0 39 1 0) := mh0.c.k (fun j => by rw [q_uo (by decide)])
  rw [s_within2 x2 0 5 (by omega) (by omega), q_bI, if_neg (by decide), x_kind g.hb xh.b hv, q_bI] at hX
  rw [s_in2 _ _ _ (by rw [q_wide]; omega) (by rw [q_wide]; omega), q_bI, if_neg (by decide), q_w, m_kind g.hb g.cd mc1 hv, q_bI, e_M_isOf] at hM
  simp only [s_unfound, s_finding, q_bI] at hX
  have i0 : INV (mx_up a 0 28 9 0) (mx_up (mx_up b 0 39 0 0) 0 39 1 0) := x.st 0 (fun k o j q => by rw [q_up, if_neg (by omega), q_up, if_neg (by omega)]) q_us
  have i3 : INV (mx_up a 0 28 9 3) (mx_up (mx_up (mx_up b 0 39 0 0) 0 39 1 0) 0 39 1 3) := x.st 3 (fun k o j q => by rw [q_up, if_neg (by omega), q_up, if_neg (by omega), q_up, if_neg (by omega)]) q_us
  by_cases z0 : x2 = 0
  · rw [if_pos z0] at hX
    rw [if_pos z0, q_bI, if_neg (by decide)] at hM
    exact ⟨_, _, _, hX, hM, i0⟩
  · rw [if_neg z0] at hX hM
    by_cases z1 : x2 = nI (kdF c v)
    · rw [if_pos z1] at hX
      rw [if_pos z1.symm, q_bI, if_neg (by decide)] at hM
      exact ⟨_, _, _, hX, hM, i0⟩
    · rw [if_neg z1] at hX
      rw [if_neg (fun w => z1 w.symm)] at hM
      by_cases z2 : x2 = 3
      · rw [if_pos z2] at hX hM
        by_cases z3 : nI (kdF c v) = 4
        · rw [if_pos z3] at hX
          rw [if_pos z3, q_bI, if_neg (by decide)] at hM
          exact ⟨_, _, _, hX, hM, i0⟩
        · rw [if_neg z3] at hX
          rw [if_neg z3, q_bI, if_pos rfl, s_mfinding, q_bI] at hM
          exact ⟨_, _, _, hX, hM, i3⟩
      · rw [if_neg z2] at hX
        rw [if_neg z2, q_bI, if_pos rfl, s_mfinding, q_bI] at hM
        exact ⟨_, _, _, hX, hM, i3⟩
/-! asks -/
def STX (_k o j : Nat) : Prop := (o = 35 ∧ j = 2) ∨ o = 36
def STM (_k o j : Nat) : Prop := (o = 39 ∧ j = 32) ∨ o = 54
def VS (h : Nat → Nat) (c : Cr) (a b : mx_S) : Prop :=
  (XB 0 h c a) ∧ (MC 0 c b) ∧ (TRr a b)
theorem VS.x {h : Nat → Nat} {c : Cr} {a b : mx_S} (x_ : VS h c a b) : XB 0 h c a := x_.1
theorem VS.m {h : Nat → Nat} {c : Cr} {a b : mx_S} (x_ : VS h c a b) : MC 0 c b := x_.2.1
theorem VS.t {h : Nat → Nat} {c : Cr} {a b : mx_S} (x_ : VS h c a b) : TRr a b := x_.2.2
def R2 (h : Nat → Nat) (c : Cr) (a b a' b' : mx_S) : Prop := VS h c a' b' ∧ kq STX a a' ∧ kq STM b b'
theorem R2.tr {h : Nat → Nat} {c : Cr} {a b a1 b1 a2 b2 : mx_S} (x : R2 h c a b a1 b1) (y : R2 h c a1 b1 a2 b2) : R2 h c a b a2 b2 := ⟨y.1, kq_tr x.2.1 y.2.1, kq_tr x.2.2 y.2.2⟩
theorem R2.rf {h : Nat → Nat} {c : Cr} {a b : mx_S} (x : VS h c a b) : R2 h c a b a b := ⟨x, kq_rf, kq_rf⟩
/-- both leave a number in the trace -/
theorem t_beg {h : Nat → Nat} {c : Cr} {a b : mx_S} (x : VS h c a b) (y : Int32) : ∃ a' b', mx_sem 0 [mx_R 0 35, mx_I y] a = some (none, a') ∧ mx_sem 121 [mx_R 0 39, mx_I y] b = some (none, b') ∧ R2 h c a b a' b' := by
  obtain ⟨m, t1, t2, t3, t4⟩ := x.t
  have hX := e_A_begin y a
  have hM := e_M_began y b
  rw [t2] at hX
  rw [t3] at hM
  by_cases q : m = 16
  · rw [if_pos (by rw [q]; decide)] at hX hM
    exact ⟨a, b, hX, hM, R2.rf x⟩
  · rw [if_neg (by rw [q_lit, q_leN (by decide) (by omega)]; omega), q_g (show m < 16 by omega) (by decide), q_w, q_w, q_uo (by decide)] at hX hM
    rw [t2, nI_1] at hX
    rw [t3, nI_1] at hM
    have kX : kq STX a (mx_up (mx_up a 0 36 m y) 0 35 2 (nI (m + 1))) := kq_up (kq_up kq_rf (Or.inr rfl)) (Or.inl ⟨rfl, rfl⟩)
    have kM : kq STM b (mx_up (mx_up b 0 54 m y) 0 39 32 (nI (m + 1))) := kq_up (kq_up kq_rf (Or.inr rfl)) (Or.inl ⟨rfl, rfl⟩)
    refine ⟨_, _, hX, hM, ⟨x.x.k (fun o j h1 h2 => kX 0 o j (by unfold STX; omega)), x.m.k (fun j => kM 0 45 j (by unfold STM; omega)), m + 1, by omega, q_us, q_us, fun i hi => ?_⟩, kX, kM⟩
    rw [q_uo (show (36 : Nat) ≠ 35 by decide), q_uo (show (54 : Nat) ≠ 39 by decide)]
    by_cases e : i = m
    · subst e; rw [q_us, q_us]
    · rw [q_uj e, q_uj e]; exact t4 i (by omega)
theorem t_10 {h : Nat → Nat} (hb : HB h) {c : Cr} {a b : mx_S} (x : VS h c a b) {v : Nat} (hv : v < h 6) : ∃ a' b', mx_sem 1 [mx_R 0 35, mx_I (nI v)] a = some (some (mx_I (c (14 * v + 2))), a') ∧ mx_sem 122 [mx_R 0 39, mx_I (nI v)] b = some (some (mx_I (c (14 * v + 2))), b') ∧ R2 h c a b a' b' := by
  have h6 := hb.r6
  obtain ⟨a', b', h1, h2, h3⟩ := t_beg x 10
  refine ⟨a', b', ?_, ?_, h3⟩
  · rw [e_A_body10, h1, q_bV, q_g (show v < 30 by omega) (by decide), h3.1.x.sa v hv]
  · rw [e_M_plainSize, h2, q_bV, g14 (i := 2) (show v < 30 by omega) (by decide) (by rfl), h3.1.m _ (by omega)]
theorem t_20 {h : Nat → Nat} {c : Cr} {a b : mx_S} (x : VS h c a b) (v : Nat) : ∃ a' b', mx_sem 3 [mx_R 0 35, mx_I (nI v)] a = some (some (mx_I (nI v)), a') ∧ mx_sem 121 [mx_R 0 39, mx_I 20] b = some (none, b') ∧ R2 h c a b a' b' := by
  obtain ⟨a', b', h1, h2, h3⟩ := t_beg x 20
  exact ⟨a', b', by rw [e_A_body20, h1, q_bV], h2, h3⟩
def rmv (x : Int32) : Int32 := if 0 ≤ x then x else 0
theorem rmv_x (x : Int32) : (if (0 : Int32) < x then x else (0 : Int32)) = rmv x := by
  unfold rmv
  by_cases q : (0 : Int32) < x
  · rw [if_pos q, if_pos (Int32.le_of_lt q)]
  · rw [if_neg q]
    by_cases q2 : 0 ≤ x
    · rw [if_pos q2]
      have h1 := (q_le _ _).mp q2
      have h2 : ¬ (0 : Int32).toInt < x.toInt := fun w => q ((q_lt _ _).mpr w)
      rw [q_eq]
      omega
    · rw [if_neg q2]
theorem t_mark {h : Nat → Nat} (hb : HB h) {c : Cr} (cd : CD h c) {a b : mx_S} (x : VS h c a b) {v : Nat} (hv : v < h 6) {dp : Int32} (hd : dp ≤ 4) (hd2 : dp + 1 ≤ 4) : ∃ z a' b', mx_sem 11 [mx_R 0 35, mx_I (nI v), mx_I dp] a = some (some (mx_I z), a') ∧ mx_sem 123 [mx_R 0 39, mx_I (nI v)] b = some (some (mx_I z), b') ∧ R2 h c a b a' b' := by
  have h6 := hb.r6
  have hv30 : v < 30 := by omega
  have hX := e_A_mark (nI v) dp a
  have hM := e_M_markOf (nI v) b
  rw [if_pos hd, x_kind hb x.x hv, q_bI] at hX
  rw [m_kind hb cd x.m hv, q_bI, g14 (i := 0) hv30 (by decide) (by rfl), show 14 * v + 0 = 14 * v from rfl, x.m _ (by omega)] at hM
  have h43 : ∀ (k : Nat) (p : Int32) (b1 : mx_S), mx_H 123 43 [some (mx_R 0 39), some (mx_I (nI v)), some (mx_I (nI k)), some (mx_I p), none] b1 = mx_bV none (mx_sem 121 [mx_R 0 39, mx_I 20] b1) fun s1 => if nI k = 5 then (mx_bI none (mx_sem 122 [mx_R 0 39, mx_I (nI v)] s1) fun r5 s4 => some (some (mx_I (nI v + r5)), s4)) else if nI k = 1 then some (some (mx_I (nI v)), s1) else if nI k = 2 then some (some (mx_I (nI v + 1000)), s1) else if nI k = 3 then some (some (mx_I (nI v + (100 : Int32) * rmv p)), s1) else (mx_g none (((14 : Int32) * nI v) + 1) 421 fun j2 => some (some (mx_I ((nI v + (100 : Int32) * rmv p) + (s1 0 45 j2))), s1)) := by
    intro k p b1
    rw [e_M_markOf_43]
    unfold rmv
    by_cases q : 0 ≤ p
    · simp only [if_pos q]
    · simp only [if_neg q]
  rcases kdF_ok c v with k | k | k | k | k
  · rw [k, if_neg (by decide), if_neg (by decide), if_neg (by decide), if_neg (by decide)] at hX
    rw [k, if_neg (by decide), e_M_markOf_20, e_M_isOf, if_neg (by decide), if_neg (by decide), if_pos rfl, if_neg (by decide), q_bI, if_pos rfl, e_M_markOf_28, if_neg (by decide), if_neg (by decide), h43] at hM
    obtain ⟨a1, b1, y1, y2, y3⟩ := t_20 x v
    rw [y1, q_bI] at hX
    rw [y2, q_bV, if_neg (by decide), if_pos (by decide)] at hM
    exact ⟨_, _, _, hX, hM, y3⟩
  · rw [k, if_pos (by decide), e_A_body24] at hX
    rw [k, if_neg (by decide), e_M_markOf_20, e_M_isOf, if_neg (by decide), if_neg (by decide), if_pos rfl, if_neg (by decide), q_bI, if_pos rfl, e_M_markOf_28, if_neg (by decide), if_pos (by decide), if_neg (by decide)] at hM
    obtain ⟨a1, b1, y1, y2, y3⟩ := t_beg x 24
    obtain ⟨a2, b2, z1, z2, z3⟩ := t_20 y3.1 v
    rw [y1, q_bV, z1, q_bI, q_bI] at hX
    rw [y2, q_bV, h43, z2, q_bV, if_neg (by decide), if_neg (by decide), if_pos (by decide)] at hM
    exact ⟨_, _, _, hX, hM, y3.tr z3⟩
  · rw [k, if_neg (by decide), if_pos (by decide), e_A_body21] at hX
    rw [k, if_neg (by decide), e_M_markOf_20, e_M_isOf, if_neg (by decide), if_pos (by decide), q_bI, if_neg (by decide)] at hM
    obtain ⟨a1, b1, y1, y2, y3⟩ := t_beg x 21
    obtain ⟨a2, b2, z1, z2, z3⟩ := t_20 y3.1 v
    rw [y1, q_bV, z1, q_bI, q_g hv30 (by decide), z3.1.x.pl v hv, rmv_x, q_bI] at hX
    rw [y2, q_bV, e_M_markOf_28, if_neg (by decide), if_neg (by decide), h43, z2, q_bV, if_neg (by decide), if_neg (by decide), if_neg (by decide), if_pos (by decide)] at hM
    exact ⟨_, _, _, hX, hM, y3.tr z3⟩
  · rw [k, if_neg (by decide), if_neg (by decide), if_pos (by decide), e_A_body22] at hX
    rw [k, if_pos (by decide)] at hM
    obtain ⟨a0, b0, w1, w2, w3⟩ := t_beg x 22
    obtain ⟨a1, b1, y1, y2, y3⟩ := t_beg w3.1 21
    obtain ⟨a2, b2, z1, z2, z3⟩ := t_20 y3.1 v
    rw [w1, q_bV, e_A_body21, y1, q_bV, z1, q_bI, q_g hv30 (by decide), z3.1.x.pl v hv, rmv_x, q_bI, q_g hv30 (by decide), z3.1.x.pa v hv, q_bI] at hX
    rw [w2, q_bV, e_M_markOf_20, e_M_isOf, if_neg (by decide), if_neg (by decide), if_pos rfl, if_pos (by decide), q_bI, if_neg (by decide), y2, q_bV, e_M_markOf_28, if_neg (by decide), if_neg (by decide), h43, z2, q_bV, if_neg (by decide), if_neg (by decide), if_neg (by decide), if_neg (by decide), g14 (i := 1) hv30 (by decide) (by rfl), z3.1.m _ (by omega)] at hM
    exact ⟨_, _, _, hX, hM, w3.tr (y3.tr z3)⟩
  · rw [k, if_neg (by decide), if_neg (by decide), if_neg (by decide), if_pos (by decide), e_A_body23] at hX
    rw [k, if_neg (by decide), e_M_markOf_20, e_M_isOf, if_neg (by decide), if_neg (by decide), if_pos rfl, if_neg (by decide), q_bI, if_pos rfl, e_M_markOf_28, if_pos (by decide), if_pos (by decide)] at hM
    obtain ⟨a1, b1, y1, y2, y3⟩ := t_beg x 23
    obtain ⟨a2, b2, z1, z2, z3⟩ := t_20 y3.1 v
    obtain ⟨a3, b3, u1, u2, u3⟩ := t_10 hb z3.1 hv
    rw [y1, q_bV, z1, q_bI, e_A_sizeC, if_pos hd2, x_kind hb z3.1.x hv, q_bI, k, if_neg (by decide), if_neg (by decide), if_neg (by decide), if_neg (by decide), u1, q_bI, q_bI, q_bI] at hX
    rw [y2, q_bV, h43, z2, q_bV, if_pos (by decide), u2, q_bI] at hM
    exact ⟨_, _, _, hX, hM, y3.tr (z3.tr u3)⟩
theorem t_size {h : Nat → Nat} (hb : HB h) {c : Cr} (cd : CD h c) {a b : mx_S} (x : VS h c a b) {v : Nat} (hv : v < h 6) : ∃ z a' b', mx_sem 14 [mx_R 0 35, mx_I (nI v), mx_I 0] a = some (some (mx_I z), a') ∧ mx_sem 124 [mx_R 0 39, mx_I (nI v)] b = some (some (mx_I z), b') ∧ R2 h c a b a' b' := by
  have h6 := hb.r6
  have hX := e_A_size (nI v) 0 a
  have hM := e_M_sizeOf (nI v) b
  rw [if_pos (by decide), x_kind hb x.x hv, q_bI] at hX
  rw [m_kind hb cd x.m hv, q_bI] at hM
  rcases kdF_ok c v with k | k | k | k | k
  · rw [k, if_pos (by decide), e_A_body11] at hX
    rw [k, if_neg (by decide), if_neg (by decide), if_pos (by decide)] at hM
    obtain ⟨a1, b1, y1, y2, y3⟩ := t_beg x 11
    obtain ⟨a2, b2, z1, z2, z3⟩ := t_10 hb y3.1 hv
    obtain ⟨mz, a3, b3, u1, u2, u3⟩ := t_mark hb cd z3.1 hv (dp := 0 + 1) (by decide) (by decide)
    rw [y1, q_bV, z1, q_bI, u1, q_bI, q_bI] at hX
    rw [y2, q_bV, z2, q_bI, e_M_isOf, if_neg (by decide), if_neg (by decide), if_pos rfl, if_neg (by decide), q_bI, if_pos rfl, u2, q_bI, if_pos (by decide)] at hM
    exact ⟨_, _, _, hX, hM, y3.tr (z3.tr u3)⟩
  · rw [k, if_neg (by decide), if_pos (by decide), e_A_body12] at hX
    rw [k, if_neg (by decide), if_neg (by decide), if_neg (by decide), if_pos (by decide)] at hM
    obtain ⟨a1, b1, y1, y2, y3⟩ := t_beg x 12
    obtain ⟨a2, b2, z1, z2, z3⟩ := t_10 hb y3.1 hv
    obtain ⟨mz, a3, b3, u1, u2, u3⟩ := t_mark hb cd z3.1 hv (dp := 0 + 1) (by decide) (by decide)
    rw [y1, q_bV, z1, q_bI, u1, q_bI, q_bI] at hX
    rw [y2, q_bV, z2, q_bI, e_M_isOf, if_neg (by decide), if_neg (by decide), if_pos rfl, if_neg (by decide), q_bI, if_pos rfl, u2, q_bI, if_neg (by decide)] at hM
    exact ⟨_, _, _, hX, hM, y3.tr (z3.tr u3)⟩
  · rw [k, if_neg (by decide), if_neg (by decide), if_pos (by decide), e_A_body13] at hX
    rw [k, if_neg (by decide), if_neg (by decide), if_neg (by decide), if_neg (by decide)] at hM
    obtain ⟨a1, b1, y1, y2, y3⟩ := t_beg x 13
    obtain ⟨a2, b2, z1, z2, z3⟩ := t_10 hb y3.1 hv
    rw [y1, q_bV, z1, q_bI, q_bI] at hX
    rw [y2, q_bV, z2, q_bI, e_M_isOf, if_neg (by decide), if_pos (by decide), q_bI, if_neg (by decide), if_neg (by decide)] at hM
    exact ⟨_, _, _, hX, hM, y3.tr z3⟩
  · rw [k, if_neg (by decide), if_neg (by decide), if_neg (by decide), if_pos (by decide), e_A_body14] at hX
    rw [k, if_neg (by decide), if_pos (by decide)] at hM
    obtain ⟨a0, b0, w1, w2, w3⟩ := t_beg x 14
    obtain ⟨a1, b1, y1, y2, y3⟩ := t_beg w3.1 13
    obtain ⟨a2, b2, z1, z2, z3⟩ := t_10 hb y3.1 hv
    rw [w1, q_bV, e_A_body13, y1, q_bV, z1, q_bI, q_bI, q_bI] at hX
    rw [w2, q_bV, if_neg (by decide), if_neg (by decide), y2, q_bV, z2, q_bI, e_M_isOf, if_neg (by decide), if_neg (by decide), if_pos rfl, if_pos (by decide), q_bI, if_neg (by decide), if_pos (by decide)] at hM
    exact ⟨_, _, _, hX, hM, w3.tr (y3.tr z3)⟩
  · rw [k, if_neg (by decide), if_neg (by decide), if_neg (by decide), if_neg (by decide)] at hX
    rw [k, if_pos (by decide)] at hM
    obtain ⟨a2, b2, z1, z2, z3⟩ := t_10 hb x hv
    rw [z1, q_bI] at hX
    rw [z2, q_bI] at hM
    exact ⟨_, _, _, hX, hM, z3⟩
theorem INV.st2 {h : Nat → Nat} {c : Cr} {a b a1 b1 a' b' : mx_S} (x : INV a b) (hX : kq STX a a1) (hM : ∀ k o j, ¬ (STM k o j ∨ (o = 39 ∧ j = 0)) → b1 k o j = b k o j) (r : R2 h c a1 b1 a' b') : INV a' b' := by
  have qa : ∀ k o j, ¬ STX k o j → a' k o j = a k o j := kq_tr hX r.2.1
  have qb : ∀ k o j, ¬ (STM k o j ∨ (o = 39 ∧ j = 0)) → b' k o j = b k o j := fun k o j q => (r.2.2 k o j (fun z => q (Or.inl z))).trans (hM k o j q)
  unfold STX at qa
  unfold STM at qb
  refine ⟨x.r.k (fun k o j ho => qa k o j (by omega)) (fun o j ho => qb 0 o j (by omega)), ?_, x.t.k (fun o j ho => qa 0 o j (by omega)) (fun o j ho => qb 0 o j (by omega)), ?_, r.1.t, ?_, x.l.k (fun o j h1 h2 => qa 0 o j (by omega)) (fun o j ho => qb 0 o j (by omega)), x.i0.k (fun o j h1 h2 => qa 2 o j (by omega)) (fun o j ho => qb 0 o j (by omega)) (Or.inl (qb 0 39 7 (by omega))), x.i1.k (fun o j h1 h2 => qa 3 o j (by omega)) (fun o j ho => qb 0 o j (by omega)) (Or.inl (qb 0 39 7 (by omega)))⟩
  · unfold IS
    rw [qa 0 28 9 (by omega), qb 0 39 1 (by omega)]; exact x.s
  · unfold IF
    rw [qa 0 28 8 (by omega), qb 0 39 12 (by omega)]; exact x.f
  · rw [qb 0 39 21 (by omega), qb 0 39 22 (by omega), qb 0 39 23 (by omega)]; exact x.e
theorem iv_ask {a b : mx_S} (x : INV a b) (x1 x2 : Int32) : Alk INV 71 125 [mx_I x1, mx_I x2] a b := by
  obtain ⟨h, D, c, g, xh, mh⟩ := x.l
  have h6 := g.hb.r6
  have mh0 := mh.t0
  have hX := e_X_ask x1 x2 a
  have hM := e_M_ask x1 x2 b
  rw [q_w] at hM
  rcases q_ix x1 (n := h 6) (by omega) with q | ⟨v, hv, rfl⟩
  · rw [x_vis0 g.hb xh.p q, q_bI, if_neg (by decide)] at hX
    rw [m_vis0 g.hb mh0.m q, q_bI, if_pos rfl] at hM
    exact ⟨_, _, _, hX, hM, x.t0⟩
  rw [x_vis1 g.hb xh.p hv, q_bI, if_pos rfl] at hX
  rw [m_vis1 g.hb mh0.m hv, q_bI, if_neg (by decide)] at hM
  have l1 : (1 : Int64).toInt = 1 := rfl
  have l0 : (0 : Int64).toInt = 0 := rfl
  rcases q_ix x2 (n := 2) (by omega) with q | ⟨j, hj, rfl⟩
  · rw [s_below1 x2 2 2 rfl q, q_bI, if_pos rfl] at hX
    rw [s_in1 _ _ _ (by rw [q_wide]; omega), q_bI, if_pos rfl] at hM
    exact ⟨_, _, _, hX, hM, x.t0⟩
  have hjI : (nI j).toInt = (j : Int) := q_toI (by omega)
  rw [s_below2 (nI j) 2 2 rfl (by omega) (by omega), q_bI, if_neg (by decide), q_w] at hX
  rw [s_in2 _ _ _ (by rw [q_wide]; omega) (by rw [q_wide]; omega), q_bI, if_neg (by decide), q_w] at hM
  have kX : kq STX a (mx_up a 0 35 2 0) := kq_up kq_rf (Or.inl ⟨rfl, rfl⟩)
  have kM : ∀ k o j, ¬ (STM k o j ∨ (o = 39 ∧ j = 0)) → mx_up (mx_up b 0 39 0 0) 0 39 32 0 k o j = b k o j := fun k o j q => by
    unfold STM at q
    rw [q_up, if_neg (by omega), q_up, if_neg (by omega)]
  have vs : VS h c (mx_up a 0 35 2 0) (mx_up (mx_up b 0 39 0 0) 0 39 32 0) := ⟨xh.b.k (fun o j h1 h2 => by rw [q_uo (by omega)]), mh0.c.k (fun j => by rw [q_uo (by decide)]), 0, by omega, q_us, q_us, fun i hi => by omega⟩
  by_cases j0 : nI j = 0
  · obtain ⟨z, a', b', y1, y2, y3⟩ := t_size g.hb g.cd vs hv
    rw [if_pos j0, y1, q_bI] at hX
    rw [if_pos j0, y2, q_bI] at hM
    exact ⟨_, _, _, hX, hM, x.st2 kX kM y3⟩
  · obtain ⟨z, a', b', y1, y2, y3⟩ := t_mark g.hb g.cd vs hv (dp := 0) (by decide) (by decide)
    rw [if_neg j0, y1, q_bI] at hX
    rw [if_neg j0, y2, q_bI] at hM
    exact ⟨_, _, _, hX, hM, x.st2 kX kM y3⟩
