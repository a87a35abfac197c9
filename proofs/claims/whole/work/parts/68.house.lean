/-! ===== house, image, restore ===== -/
/-- cells (0, o1, p + i) .. took over cells (0, o2, q + i) .. -/
def mvS (s : mx_S) (o1 p o2 q i n : Nat) : mx_S := fun k o j => if k = 0 ∧ o = o1 ∧ p + i ≤ j ∧ j < p + n then s 0 o2 (q + (j - p)) else s k o j
theorem mvS_e (s : mx_S) (o1 p o2 q n : Nat) : mvS s o1 p o2 q n n = s := by
  funext k o j
  exact if_neg (by omega)
theorem mvS_s {s : mx_S} {o1 p o2 q i n : Nat} (ho : o2 ≠ o1) (hi : i < n) : mvS (mx_up s 0 o1 (p + i) (s 0 o2 (q + i))) o1 p o2 q (i + 1) n = mvS s o1 p o2 q i n := by
  funext k o j
  unfold mvS
  rw [q_uo ho]
  by_cases c : k = 0 ∧ o = o1 ∧ p + i ≤ j ∧ j < p + n
  · rw [if_pos c]
    by_cases e : j = p + i
    · rw [if_neg (by omega), c.1, c.2.1, e, q_us]
      congr 1
      omega
    · rw [if_pos (by omega)]
  · rw [if_neg c, if_neg (by omega), q_up, if_neg (by omega)]
theorem mvS_o {s : mx_S} {o1 p o2 q i n k o j : Nat} (h : ¬ (k = 0 ∧ o = o1)) : mvS s o1 p o2 q i n k o j = s k o j := if_neg (fun z => h ⟨z.1, z.2.1⟩)
theorem mvS_at {s : mx_S} {o1 p o2 q n j : Nat} (h : j < n) : mvS s o1 p o2 q 0 n 0 o1 (p + j) = s 0 o2 (q + j) := by
  unfold mvS
  rw [if_pos (by omega)]
  congr 1
  omega
theorem mvS_n {s : mx_S} {o1 p o2 q n j : Nat} (h : ¬ (p ≤ j ∧ j < p + n)) : mvS s o1 p o2 q 0 n 0 o1 j = s 0 o1 j := if_neg (by omega)
theorem m_h93 : ∀ (d i : Nat) (b : mx_S), i + d = 80 → mx_H 174 93 [some (mx_R 0 39), some (mx_I (nI i))] b = mx_H 174 93 [some (mx_R 0 39), some (mx_I (nI 80))] (mvS b 43 0 44 0 i 80) := by
  intro d
  induction d with
  | zero =>
    intro i b hd
    have e : i = 80 := by omega
    subst e
    rw [mvS_e]
  | succ d ih =>
    intro i b hd
    have e := mvS_s (s := b) (o1 := 43) (p := 0) (o2 := 44) (q := 0) (by decide) (show i < 80 by omega)
    rw [Nat.zero_add] at e
    rw [e_M_house_93, if_neg (by rw [q_lit, q_leN (by decide) (by omega)]; omega), q_g (by omega) (by decide), q_g (by omega) (by decide), q_w, nI_1, ih (i + 1) _ (by omega), e]
theorem m_im19 {kk : Nat} (hk : kk < 2) : ∀ (d i : Nat) (b : mx_S), i + d = 80 → mx_H 177 19 [some (mx_R 0 39), some (mx_I (nI kk)), some (mx_I (nI i))] b = mx_H 177 39 [some (mx_R 0 39), some (mx_I (nI kk)), some (mx_I (nI 0))] (mvS b 52 (80 * kk) 43 0 i 80) := by
  intro d
  induction d with
  | zero =>
    intro i b hd
    have e : i = 80 := by omega
    subst e
    rw [mvS_e, e_M_image_19, if_pos (by decide)]; rfl
  | succ d ih =>
    intro i b hd
    have e := mvS_s (s := b) (o1 := 52) (p := 80 * kk) (o2 := 43) (q := 0) (by decide) (show i < 80 by omega)
    rw [Nat.zero_add] at e
    rw [e_M_image_19, if_neg (by rw [q_lit, q_leN (by decide) (by omega)]; omega), q_g (by omega) (by decide), q_gx (n := 80 * kk + i) (by rw [q_lit, q_mul, q_add]) (by omega) (by decide), q_w, nI_1, ih (i + 1) _ (by omega), e]
theorem m_im39 {kk : Nat} (hk : kk < 2) : ∀ (d i : Nat) (b : mx_S), i + d = 421 → mx_H 177 39 [some (mx_R 0 39), some (mx_I (nI kk)), some (mx_I (nI i))] b = some (some (mx_I 1), mx_up (mvS b 53 (421 * kk) 45 0 i 421) 0 51 kk 1) := by
  intro d
  induction d with
  | zero =>
    intro i b hd
    have e : i = 421 := by omega
    subst e
    rw [mvS_e, e_M_image_39, if_pos (by decide), q_g hk (by decide), q_w]
    rfl
  | succ d ih =>
    intro i b hd
    have e := mvS_s (s := b) (o1 := 53) (p := 421 * kk) (o2 := 45) (q := 0) (by decide) (show i < 421 by omega)
    rw [Nat.zero_add] at e
    rw [e_M_image_39, if_neg (by rw [q_lit, q_leN (by decide) (by omega)]; omega), q_g (by omega) (by decide), q_gx (n := 421 * kk + i) (by rw [q_lit, q_mul, q_add]) (by omega) (by decide), q_w, nI_1, ih (i + 1) _ (by omega), e]
theorem m_rs21 {kk : Nat} (hk : kk < 2) : ∀ (d i : Nat) (b : mx_S), i + d = 80 → mx_H 181 21 [some (mx_R 0 39), some (mx_I (nI kk)), some (mx_I (nI i))] b = mx_H 181 41 [some (mx_R 0 39), some (mx_I (nI kk)), some (mx_I (nI 0))] (mvS b 43 0 52 (80 * kk) i 80) := by
  intro d
  induction d with
  | zero =>
    intro i b hd
    have e : i = 80 := by omega
    subst e
    rw [mvS_e, e_M_restore_21, if_pos (by decide)]; rfl
  | succ d ih =>
    intro i b hd
    have e := mvS_s (s := b) (o1 := 43) (p := 0) (o2 := 52) (q := 80 * kk) (by decide) (show i < 80 by omega)
    rw [Nat.zero_add] at e
    rw [e_M_restore_21, if_neg (by rw [q_lit, q_leN (by decide) (by omega)]; omega), q_gx (n := 80 * kk + i) (by rw [q_lit, q_mul, q_add]) (by omega) (by decide), q_g (by omega) (by decide), q_w, nI_1, ih (i + 1) _ (by omega), e]
theorem m_rs41 {kk : Nat} (hk : kk < 2) : ∀ (d i : Nat) (b : mx_S), i + d = 421 → mx_H 181 41 [some (mx_R 0 39), some (mx_I (nI kk)), some (mx_I (nI i))] b = mx_bV none (mx_sem 173 [mx_R 0 39] (mvS b 45 0 53 (421 * kk) i 421)) fun s1 => some (some (mx_I 1), s1) := by
  intro d
  induction d with
  | zero =>
    intro i b hd
    have e : i = 421 := by omega
    subst e
    rw [mvS_e, e_M_restore_41, if_pos (by decide)]
  | succ d ih =>
    intro i b hd
    have e := mvS_s (s := b) (o1 := 45) (p := 0) (o2 := 53) (q := 421 * kk) (by decide) (show i < 421 by omega)
    rw [Nat.zero_add] at e
    rw [e_M_restore_41, if_neg (by rw [q_lit, q_leN (by decide) (by omega)]; omega), q_gx (n := 421 * kk + i) (by rw [q_lit, q_mul, q_add]) (by omega) (by decide), q_g (by omega) (by decide), q_w, nI_1, ih (i + 1) _ (by omega), e]
theorem iv_image {a b : mx_S} (x : INV a b) (x1 : Int32) : Alk INV 94 177 [mx_I x1] a b := by
  obtain ⟨h, D, c, g, xh, mh⟩ := x.l
  have mh0 := mh.t0
  have hX := e_X_image x1 a
  have hM := e_M_image x1 b
  rw [q_w] at hM
  have l1 : (1 : Int64).toInt = 1 := rfl
  have l0 : (0 : Int64).toInt = 0 := rfl
  rcases q_ix x1 (n := 2) (by omega) with q | ⟨i, hi, rfl⟩
  · rw [s_below1 x1 2 2 rfl q, q_bI, if_pos rfl] at hX
    rw [s_in1 _ _ _ (by rw [q_wide]; omega), q_bI, if_pos rfl] at hM
    exact ⟨_, _, _, hX, hM, x.t0⟩
  have hiI : (nI i).toInt = (i : Int) := q_toI (by omega)
  rw [s_below2 (nI i) 2 2 rfl (by omega) (by omega), q_bI, if_neg (by decide)] at hX
  rw [s_in2 _ _ _ (by rw [q_wide]; omega) (by rw [q_wide]; omega), q_bI, if_neg (by decide), mh0.t] at hM
  by_cases h0 : h 2 = 0
  · rw [x_nh0 xh.p h0, q_bI, if_neg (by decide)] at hX
    rw [if_pos h0, if_pos rfl] at hM
    exact ⟨_, _, _, hX, hM, x.t0⟩
  obtain ⟨a', f1, f2, f3⟩ := s_takeAll (k0 := i + 2) (k1 := 0) (by omega) g.hb xh
  rw [x_nh1 g.hb xh.p h0, q_bI, if_pos rfl, q_g hi (by decide), f1, q_bV] at hX
  rw [if_neg h0, if_neg (by decide), show mx_I 0 = mx_I (nI 0) from rfl, m_im19 hi 80 0 _ (by omega), m_im39 hi 421 0 _ (by omega)] at hM
  have ea : ∀ k o j, ¬ (k = i + 2 ∧ 1 ≤ o ∧ o ≤ 26) → a' k o j = a k o j := fun k o j q => f3 k o j (fun z => by
    unfold SP SC at z
    omega)
  refine ⟨_, a', _, hX, hM, ?_⟩
  have eb : ∀ o j, o ≠ 51 → o ≠ 52 → o ≠ 53 → mx_up (mvS (mvS (mx_up b 0 39 0 0) 52 (80 * i) 43 0 0 80) 53 (421 * i) 45 0 0 421) 0 51 i 1 0 o j = mx_up b 0 39 0 0 0 o j := fun o j h1 h2 h3 => by rw [q_uo h1, mvS_o (fun z => h3 z.2), mvS_o (fun z => h2 z.2)]
  have x0 := x.t0
  have imi : IM i a' (mx_up (mvS (mvS (mx_up b 0 39 0 0) 52 (80 * i) 43 0 0 80) 53 (421 * i) 45 0 0 421) 0 51 i 1) := by
    refine Or.inr ⟨h, D, c, g, by omega, f2, fun j hj => ?_, fun j hj => ?_, q_us, ?_⟩
    · rw [q_uo (by decide), mvS_o (by omega), mvS_at hj, Nat.zero_add]; exact mh0.m j hj
    · rw [q_uo (by decide), mvS_at hj, Nat.zero_add, mvS_o (by omega)]; exact mh0.c j hj
    · rw [eb _ _ (by decide) (by decide) (by decide), mh0.t, if_neg h0]
  have imo : ∀ i2, i2 < 2 → i2 ≠ i → IM i2 a (mx_up b 0 39 0 0) → IM i2 a' (mx_up (mvS (mvS (mx_up b 0 39 0 0) 52 (80 * i) 43 0 0 80) 53 (421 * i) 45 0 0 421) 0 51 i 1) := by
    intro i2 h2 hne z
    rcases z with ⟨z1, z2⟩ | ⟨h', D', c', z1, z2, z3, z4, z5, z6, z7⟩
    · refine Or.inl ⟨by rw [ea _ _ _ (by omega)]; exact z1, ?_⟩
      rw [q_uj hne, mvS_o (by omega), mvS_o (by omega)]; exact z2
    · refine Or.inr ⟨h', D', c', z1, z2, z3.k (fun o j h1 h2 => ea _ o j (by omega)), fun j hj => ?_, fun j hj => ?_, ?_, ?_⟩
      · rw [q_uo (by decide), mvS_o (by omega), mvS_n (by omega)]; exact z4 j hj
      · rw [q_uo (by decide), mvS_n (by omega), mvS_o (by omega)]; exact z5 j hj
      · rw [q_uj hne, mvS_o (by omega), mvS_o (by omega)]; exact z6
      · rw [eb _ _ (by decide) (by decide) (by decide)]; exact z7
  refine ⟨x0.r.k (fun k o j ho => ea k o j (by omega)) (fun o j ho => eb o j (by omega) (by omega) (by omega)), ?_, x0.t.k (fun o j ho => ea 0 o j (by omega)) (fun o j ho => eb o j (by omega) (by omega) (by omega)), ?_, x0.tr.k (fun o j ho => ea 0 o j (by omega)) (fun o j ho => eb o j (by omega) (by omega) (by omega)), ?_, x0.l.k (fun o j h1 h2 => ea 0 o j (by omega)) (fun o j ho => eb o j (by omega) (by omega) (by omega)), ?_, ?_⟩
  · unfold IS
    rw [ea 0 28 9 (by omega), eb 39 1 (by decide) (by decide) (by decide)]; exact x0.s
  · unfold IF
    rw [ea 0 28 8 (by omega), eb 39 12 (by decide) (by decide) (by decide)]; exact x0.f
  · rw [eb 39 21 (by decide) (by decide) (by decide), eb 39 22 (by decide) (by decide) (by decide), eb 39 23 (by decide) (by decide) (by decide)]; exact x0.e
  · by_cases e : i = 0
    · subst e; exact imi
    · exact imo 0 (by omega) (fun z => e z.symm) x0.i0
  · by_cases e : i = 1
    · subst e; exact imi
    · exact imo 1 (by omega) (fun z => e z.symm) x0.i1
theorem iv_restore {a b : mx_S} (x : INV a b) (x1 : Int32) : Alk INV 98 181 [mx_I x1] a b := by
  have hX := e_X_restore x1 a
  have hM := e_M_restore x1 b
  rw [q_w] at hM
  have l1 : (1 : Int64).toInt = 1 := rfl
  have l0 : (0 : Int64).toInt = 0 := rfl
  rcases q_ix x1 (n := 2) (by omega) with q | ⟨i, hi, rfl⟩
  · rw [s_below1 x1 2 2 rfl q, q_bI, if_pos rfl] at hX
    rw [s_in1 _ _ _ (by rw [q_wide]; omega), q_bI, if_pos rfl] at hM
    exact ⟨_, _, _, hX, hM, x.t0⟩
  have hiI : (nI i).toInt = (i : Int) := q_toI (by omega)
  rw [s_below2 (nI i) 2 2 rfl (by omega) (by omega), q_bI, if_neg (by decide), q_g hi (by decide)] at hX
  rw [s_in2 _ _ _ (by rw [q_wide]; omega) (by rw [q_wide]; omega), q_bI, if_neg (by decide), q_g hi (by decide)] at hM
  have x0 := x.t0
  have im : IM i a (mx_up b 0 39 0 0) := by
    have : i = 0 ∨ i = 1 := by omega
    rcases this with rfl | rfl
    · exact x0.i0
    · exact x0.i1
  rcases im with ⟨z1, z2⟩ | ⟨h, D, c, g, z2, z3, z4, z5, z6, z7⟩
  · rw [z1, if_pos rfl] at hX
    rw [z2, if_pos rfl] at hM
    exact ⟨_, _, _, hX, hM, x0⟩
  · have r2 := g.hb.r2
    obtain ⟨a', f1, f2, f3⟩ := s_takeAll (k0 := 0) (k1 := i + 2) (by omega) g.hb z3
    rw [z3.p.f2, if_neg (by rw [q_lit, q_eqN (by omega) (by decide)]; omega), q_g hi (by decide), f1, q_bV] at hX
    have hm : MH 43 h (mvS (mvS (mx_up b 0 39 0 0) 43 0 52 (80 * i) 0 80) 45 0 53 (421 * i) 0 421) := fun j hj => by
      have e := mvS_at (s := mx_up b 0 39 0 0) (o1 := 43) (p := 0) (o2 := 52) (q := 80 * i) hj
      rw [Nat.zero_add] at e
      rw [mvS_o (by omega), e]
      exact z4 j hj
    have hc : MC 0 c (mvS (mvS (mx_up b 0 39 0 0) 43 0 52 (80 * i) 0 80) 45 0 53 (421 * i) 0 421) := fun j hj => by
      have e := mvS_at (s := mvS (mx_up b 0 39 0 0) 43 0 52 (80 * i) 0 80) (o1 := 45) (p := 0) (o2 := 53) (q := 421 * i) hj
      rw [Nat.zero_add] at e
      rw [e, mvS_o (by omega)]
      exact z5 j hj
    obtain ⟨D2, b', y1, y2, y3, y4⟩ := s_layFar g.hb z2 hm
    rw [z6, if_neg (by decide), show mx_I 0 = mx_I (nI 0) from rfl, m_rs21 hi 80 0 _ (by omega), m_rs41 hi 421 0 _ (by omega), y1, q_bV] at hM
    have ek : ∀ k o j, ¬ (k = 0 ∧ (o = 43 ∨ o = 45)) → ¬ o = 47 → b' k o j = mx_up b 0 39 0 0 k o j := fun k o j q1 q2 => by rw [y4 k o j q2, mvS_o (by omega), mvS_o (by omega)]
    have e7 : b' 0 39 7 = mx_up b 0 39 0 0 0 39 7 := ek 0 39 7 (by omega) (by omega)
    refine ⟨_, a', b', hX, hM, x0.lv ⟨h, D2, c, g.d y2, f2.d g y2, ⟨hm.k (fun j => y4 0 43 j (fun z => by have : (43 : Nat) = 47 := z; omega)), y3, hc.k (fun j => y4 0 45 j (fun z => by have : (45 : Nat) = 47 := z; omega)), by rw [e7, z7, if_neg (by omega)]⟩⟩ (kq_mono f3 (fun k o j z => by
      unfold SP SC at z
      unfold JXL
      omega)) (fun k o j q => ek k o j (fun z => q (by unfold JML; omega)) (fun z => q (by unfold JML; omega))) (Or.inl e7)⟩
theorem iv_house {a b : mx_S} (x : INV a b) : Alk INV 92 174 [] a b := by
  obtain ⟨f, st, a1, b1, hf3, r1, r2, r3, r4, r5, r6, r7, r8⟩ := read_all x.t
  have hX := e_X_house a
  rw [r1, q_bV, q_w, q_uj (by decide), r3] at hX
  have qa : ∀ k o j, ¬ SZX k o j → a1 k o j = a k o j := r6
  have qb : ∀ k o j, ¬ SZM k o j → b1 k o j = b k o j := r7
  unfold SZX at qa
  unfold SZM at qb
  by_cases hf : f = 0
  · subst hf
    obtain ⟨h, pi, p2, p4, p5⟩ := r8 rfl
    have hb := pi.g
    have rr2 := hb.r2
    have rr6 := hb.r6
    have p6 : 1 ≤ h 6 := by
      rw [hb.su]
      have s1 := sm_mono h (h 5) 1 p5
      have s2 : sm h 1 = 0 + h 56 := rfl
      have s3 := (hb.gr 0 (by omega)).1
      have s4 : h (56 + 4 * 0) = h 56 := rfl
      omega
    rw [if_pos (by decide)] at hX
    rw [if_pos rfl] at r2
    have xp1 : XP 1 h (mt0 h) (lw0 h) (mx_up a1 0 29 1 0) := pi.x.k (fun o j h1 h2 => by rw [q_uo (by omega)])
    obtain ⟨a2, t1, t2, t3⟩ := s_takePlan (k0 := 0) (k1 := 1) (by decide) (mx_up a1 0 29 1 0)
    have xp2 := t2.x hb xp1
    obtain ⟨D1, a3, u1, u2, u3, u4⟩ := s_measure hb xp2
    have xp3 := xp2.w u4
    have mh1 : MH 43 h (mvS (mx_up b1 0 39 7 1) 43 0 44 0 0 80) := fun j hj => by
      have e := mvS_at (s := mx_up b1 0 39 7 1) (o1 := 43) (p := 0) (o2 := 44) (q := 0) hj
      rw [Nat.zero_add] at e
      rw [e, q_uo (by decide)]
      exact pi.m j hj
    obtain ⟨D2, b3, y1, y2, y3, y4⟩ := s_layFar hb p2 mh1
    obtain ⟨a4, v1, v2, v3, v4⟩ := s_begin hb D2 (lw0 h) (dn := 0) xp3
    have m43 : MH 43 h b3 := mh1.k (fun j => y4 0 43 j (fun z => by have : (43 : Nat) = 47 := z; omega))
    have eb3 : ∀ k o j, ¬ o = 47 → ¬ (k = 0 ∧ o = 43) → ¬ (o = 39 ∧ j = 7) → b3 k o j = b1 k o j := fun k o j q1 q2 q3 => by rw [y4 k o j q1, mvS_o q2, q_up, if_neg (by omega)]
    have dn0 : DN 0 b3 := by
      right
      rw [eb3 0 39 23 (by omega) (by omega) (by omega), qb 0 39 23 (by omega), x.e.2.2]
      exact ⟨by decide, rfl⟩
    obtain ⟨b4, w1, w2, w3⟩ := s_opens hb (kk := 0) m43 dn0
    have m43' : MH 43 h b4 := m43.k (fun j => w3 0 43 j (fun z => by have := z.2; omega))
    rw [t1, q_bV, u1, q_bV, v1, q_bV, (xp3.b v4).f17] at hX
    have hM := r2
    rw [show mx_I 0 = mx_I (nI 0) from rfl, m_h93 80 0 _ (by omega), e_M_house_93, if_pos (by decide), y1, q_bV, w1, q_bV, q_gl (by decide) (by decide), m43' 6 (by decide)] at hM
    refine ⟨_, a4, b4, hX, hM, ?_⟩
    have ea4 : ∀ k o j, ¬ (k = 0 ∧ 1 ≤ o ∧ o ≤ 27) → a4 k o j = mx_up a1 0 29 1 0 k o j := fun k o j q => by
      rw [v4 k o j (fun z => q ⟨z.1, by have := z.2; omega, by have := z.2; omega⟩), u4 k o j (fun z => q ⟨z.1, by have := z.2; omega, by have := z.2; omega⟩), t3 k o j (fun z => q ⟨z.1, by have := z.2; omega, by have := z.2; omega⟩)]
    have eb4 : ∀ k o j, ¬ o = 47 → ¬ (k = 0 ∧ (o = 43 ∨ o = 45)) → ¬ (o = 39 ∧ j = 7) → b4 k o j = b1 k o j := fun k o j q1 q2 q3 => by
      rw [w3 k o j (fun z => q2 ⟨z.1, Or.inr z.2⟩)]
      exact eb3 k o j q1 (by omega) q3
    have ea : ∀ k o j, ¬ (k = 0 ∧ 1 ≤ o ∧ o ≤ 27) → ¬ (k = 1 ∧ 1 ≤ o ∧ o ≤ 12) → ¬ o = 29 → a4 k o j = a k o j := fun k o j q1 q2 q3 => by
      rw [ea4 k o j q1, q_uo q3]
      exact qa k o j (by omega)
    have eb : ∀ k o j, ¬ o = 47 → ¬ (k = 0 ∧ (o = 43 ∨ o = 45)) → ¬ (o = 39 ∧ (j = 0 ∨ j = 7 ∨ j = 11 ∨ 13 ≤ j ∧ j ≤ 19)) → ¬ o = 44 → b4 k o j = b k o j := fun k o j q1 q2 q3 q4 => by
      rw [eb4 k o j q1 q2 (by omega)]
      exact qb k o j (by omega)
    have b7 : b4 0 39 7 = 1 := by rw [w3 0 39 7 (fun z => by have := z.2; omega), y4 0 39 7 (fun z => by have : (39 : Nat) = 47 := z; omega), mvS_o (by omega), q_us]
    refine ⟨x.r.k (fun k o j ho => ea k o j (by omega) (by omega) (by omega)) (fun o j ho => eb 0 o j (by omega) (by omega) (by omega) (by omega)), ?_, ⟨0, by omega, ?_, ?_, fun j hj => by omega⟩, ?_, x.tr.k (fun o j ho => ea 0 o j (by omega) (by omega) (by omega)) (fun o j ho => eb 0 o j (by omega) (by omega) (by omega) (by omega)), ?_, ⟨h, D2, c0 h 0 (h 6), ⟨hb, y2, CB.c0 0, CD.c0 0, Or.inr ⟨p4, p6⟩⟩, ⟨xp3.b v4, (u3.d u2 y2).b v4, v2, v3⟩, ⟨m43', fun p q hp hq => by rw [w3 0 47 _ (fun z => by have := z.2; omega)]; exact y3 p q hp hq, w2, by rw [b7, if_neg (by omega)]⟩⟩, x.i0.k (fun o j h1 h2 => ea 2 o j (by omega) (by omega) (by omega)) (fun o j ho => eb 0 o j (by omega) (by omega) (by omega) (by omega)) (Or.inr b7), x.i1.k (fun o j h1 h2 => ea 3 o j (by omega) (by omega) (by omega)) (fun o j ho => eb 0 o j (by omega) (by omega) (by omega) (by omega)) (Or.inr b7)⟩
    · unfold IS
      rw [ea 0 28 9 (by omega) (by omega) (by omega), eb 0 39 1 (by omega) (by omega) (by omega) (by omega)]; exact x.s
    · rw [ea4 0 29 1 (by omega), q_us]; rfl
    · rw [eb4 0 39 11 (by omega) (by omega) (by omega), r5]; rfl
    · unfold IF
      rw [ea 0 28 8 (by omega) (by omega) (by omega), eb 0 39 12 (by omega) (by omega) (by omega) (by omega)]; exact x.f
    · rw [eb 0 39 21 (by omega) (by omega) (by omega) (by omega), eb 0 39 22 (by omega) (by omega) (by omega) (by omega), eb 0 39 23 (by omega) (by omega) (by omega) (by omega)]; exact x.e
  · rw [if_neg (by rw [q_lit, q_eqN (by omega) (by decide)]; exact hf), q_w, q_uo (show (29 : Nat) ≠ 28 by decide), q_uj (show (2 : Nat) ≠ 1 by decide), r4] at hX
    rw [if_neg hf] at r2
    refine ⟨_, _, _, hX, r2, ?_⟩
    have ea : ∀ k o j, ¬ (k = 1 ∧ 1 ≤ o ∧ o ≤ 12) → ¬ o = 29 → ¬ (o = 28 ∧ j = 8) → mx_up (mx_up a1 0 29 1 0) 0 28 8 (nI f) k o j = a k o j := fun k o j q1 q2 q3 => by
      rw [q_up, if_neg (by omega), q_uo q2]
      exact qa k o j (by omega)
    have eb : ∀ k o j, ¬ (o = 39 ∧ (j = 0 ∨ j = 11 ∨ j = 12 ∨ 13 ≤ j ∧ j ≤ 19)) → ¬ o = 44 → mx_up b1 0 39 12 (nI f) k o j = b k o j := fun k o j q1 q2 => by
      rw [q_up, if_neg (by omega)]
      exact qb k o j (by omega)
    refine ⟨x.r.k (fun k o j ho => ea k o j (by omega) (by omega) (by omega)) (fun o j ho => eb 0 o j (by omega) (by omega)), ?_, ⟨0, by omega, ?_, ?_, fun j hj => by omega⟩, ?_, x.tr.k (fun o j ho => ea 0 o j (by omega) (by omega) (by omega)) (fun o j ho => eb 0 o j (by omega) (by omega)), ?_, x.l.k (fun o j h1 h2 => ea 0 o j (by omega) (by omega) (by omega)) (fun o j ho => eb 0 o j (by omega) (by omega)), x.i0.k (fun o j h1 h2 => ea 2 o j (by omega) (by omega) (by omega)) (fun o j ho => eb 0 o j (by omega) (by omega)) (Or.inl (eb 0 39 7 (by omega) (by omega))), x.i1.k (fun o j h1 h2 => ea 3 o j (by omega) (by omega) (by omega)) (fun o j ho => eb 0 o j (by omega) (by omega)) (Or.inl (eb 0 39 7 (by omega) (by omega)))⟩
    · unfold IS
      rw [ea 0 28 9 (by omega) (by omega) (by omega), eb 0 39 1 (by omega) (by omega)]; exact x.s
    · rw [q_uo (by decide), q_us]; rfl
    · rw [q_uj (by decide), r5]; rfl
    · unfold IF
      rw [q_us, q_us]
    · rw [eb 0 39 21 (by omega) (by omega), eb 0 39 22 (by omega) (by omega), eb 0 39 23 (by omega) (by omega)]; exact x.e
