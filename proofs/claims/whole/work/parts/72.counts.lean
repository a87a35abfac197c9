/-! ===== counts ===== -/
theorem XP.fl {h mt lw : Nat → Nat} (hb : HB h) {a : mx_S} (x : XP 1 h mt lw a) (l : Nat) : XP 1 h mt (fun _ => l) (mx_fl a 1 11 0 6 (nI l)) := by
  have r5 := hb.r5
  refine ⟨?_, ?_, ?_, ?_, ?_, ?_, ?_, fun i hi => ?_, fun i hi => ?_, fun i hi => ?_, fun i hi => ?_⟩
  · rw [q_flo (by decide)]; exact x.f0
  · rw [q_flo (by decide)]; exact x.f1
  · rw [q_flo (by decide)]; exact x.f2
  · rw [q_flo (by decide)]; exact x.f4
  · rw [q_flo (by decide)]; exact x.f8
  · rw [q_flo (by decide)]; exact x.f12
  · rw [q_flo (by decide)]; exact x.f17
  · rw [q_flo (by decide)]; exact x.rm i hi
  · rw [q_flo (by decide), q_flo (by decide), q_flo (by decide)]; exact x.dr i hi
  · rw [q_flo (by decide), q_flo (by decide), q_flo (by decide)]; exact x.pc i hi
  · obtain ⟨g1, g2, g3, g4⟩ := x.gr i hi
    refine ⟨by rw [q_flo (by decide)]; exact g1, by rw [q_flo (by decide)]; exact g2, ?_, by rw [q_flo (by decide)]; exact g4⟩
    rw [q_fl, if_pos ⟨rfl, rfl, by omega, by omega⟩]
/-- what stays the same over the laws -/
def KM (b b' : mx_S) : Prop := ∀ k o j, ¬ S458 1 k o j → ¬ (k = 0 ∧ o = 39 ∧ j = 21) → b' k o j = b k o j
theorem KM.tr {b b1 b2 : mx_S} (x : KM b b1) (y : KM b1 b2) : KM b b2 := fun k o j q1 q2 => (y k o j q1 q2).trans (x k o j q1 q2)
noncomputable def XL (r rw_ i n : Nat) (best least law : Int32) (a : mx_S) : Option mx_Rt := mx_H 82 12 [some (mx_R 0 28), some (mx_I (nI r)), some (mx_R rw_ 32), some (mx_I (nI i)), some (mx_I (nI n)), some (mx_I best), some (mx_I least), some (mx_I law), none] a
noncomputable def MLw (r rw_ i n : Nat) (best least law : Int32) (b : mx_S) : Option mx_Rt := mx_H 154 80 [some (mx_R 0 39), some (mx_I (nI r)), some (mx_I (nI rw_)), some (mx_I (nI i)), some (mx_I (nI n)), some (mx_I best), some (mx_I least), some (mx_I law), none] b
/-- one law, both -/
theorem law_1 {h : Nat → Nat} {D : Nat → Nat → Nat} {c : Cr} (g : GH h D c) (h1 : 1 ≤ h 2) {r rw_ i n : Nat} (hr : r < h 2) (hrw : rw_ < 8) (hn : i + n ≤ 40) {T : Nat → Nat} (hT : ∀ k, k < 40 → T k ≤ 30) {a b : mx_S} {lwx : Nat → Nat} (hx : XP 1 h (mt0 h) lwx a) (hw : XW 1 (h 2) D a) (hi : ∀ t, t < n → a rw_ 33 (i + t) = nI (T t)) (hm : MH 43 h b) (hf : MF D b) (e22 : b 0 39 22 = -1) (e23 : b 0 39 23 = -1) (hi2 : ∀ t, t < n → b 0 42 (40 * rw_ + i + t) = nI (T t)) {l : Nat} (hl : l ≤ 2) : ∃ O a' b', O ≤ 1200 ∧ (mx_bV (none : Option mx_Rt) (mx_sem 18 [mx_R 1 11, mx_I (nI l)] a) fun s1 => mx_sem 81 [mx_R 0 28, mx_I (nI r), mx_R rw_ 32, mx_I (nI i), mx_I (nI n)] s1) = some (some (mx_I (nI O)), a') ∧ mx_sem 153 [mx_R 0 39, mx_I (nI r), mx_I ((40 : Int32) * nI rw_ + nI i), mx_I (nI n)] (mx_up b 0 39 21 (nI l)) = some (some (mx_I (nI O)), b') ∧ XP 1 h (mt0 h) (fun _ => l) a' ∧ XW 1 (h 2) D a' ∧ (∀ t, t < n → a' rw_ 33 (i + t) = nI (T t)) ∧ kq JX a a' ∧ KM b b' := by
  have r4 := g.hb.r4
  have hx1 := hx.fl g.hb l
  have k1 : kq JX a (mx_fl a 1 11 0 6 (nI l)) := kq_fl kq_rf (fun j => Or.inl ⟨rfl, by omega⟩)
  have hw1 : XW 1 (h 2) D (mx_fl a 1 11 0 6 (nI l)) := hw.k (fun o j q1 q2 => by rw [q_flo (by omega)])
  have i1 : ∀ t, t < n → mx_fl a 1 11 0 6 (nI l) rw_ 33 (i + t) = nI (T t) := fun t ht => by rw [q_flo (by decide)]; exact hi t ht
  obtain ⟨a', u1, u2⟩ := x_offBy g.hb h1 g.hD (fun _ _ => hl) hr hn hT hx1 hw1 i1
  have me : ME h (mt0 h) (fun _ => l) D (mx_up b 0 39 21 (nI l)) := by
    refine ⟨hm.k (fun j => by rw [q_uo (by decide)]), fun y z hy hz => by rw [q_uo (by decide)]; exact hf y z hy hz, fun gg hg => ⟨hl, Or.inr q_us⟩, fun p hp => Or.inr ⟨?_, rfl⟩⟩
    rw [q_uj (by decide), e22]
    exact fun q => nI_m1 (by omega) q.symm
  obtain ⟨b', v1, v2⟩ := m_offBy g.hb h1 g.hD (r := r) (f := 40 * rw_ + i) (n := n) (by omega) (by omega) hT me (by rw [q_uj (by decide)]; exact e23) (fun t ht => by rw [q_uo (by decide)]; exact hi2 t ht)
  have ol := offF_le (mt := mt0 h) (lw := fun _ => l) (D := D) (r := r) g.hb hT n 0 (c0 h 0 (h 6)) 0 (by omega)
  refine ⟨offF h (mt0 h) (fun _ => l) D r T n 0 (c0 h 0 (h 6)) 0, a', b', by omega, ?_, ?_, hx1.b u2, hw1.b u2, fun t ht => by rw [u2 rw_ 33 _ (fun q => by have := q.2; omega)]; exact i1 t ht, kq_tr k1 (SXb_J u2), fun k o j q1 q2 => by rw [v2 k o j q1, q_up, if_neg q2]⟩
  · rw [s_fill 1 11 _ _ (by decide) (by decide) (by decide), q_bV]; exact u1
  · rw [show (40 : Int32) * nI rw_ + nI i = nI (40 * rw_ + i) by rw [q_lit, q_mul, q_add]]; exact v1
theorem law_l {h : Nat → Nat} {D : Nat → Nat → Nat} {c : Cr} (g : GH h D c) (h1 : 1 ≤ h 2) {r rw_ i n : Nat} (hr : r < h 2) (hrw : rw_ < 8) (hn : i + n ≤ 40) {T : Nat → Nat} (hT : ∀ k, k < 40 → T k ≤ 30) : ∀ (d l : Nat) (best : Int32) (L : Nat) (a b : mx_S) (lwx : Nat → Nat), l + d = 3 → 1 ≤ l → L ≤ 1200 → XP 1 h (mt0 h) lwx a → XW 1 (h 2) D a → (∀ t, t < n → a rw_ 33 (i + t) = nI (T t)) → MH 43 h b → MF D b → b 0 39 22 = -1 → b 0 39 23 = -1 → (∀ t, t < n → b 0 42 (40 * rw_ + i + t) = nI (T t)) → ∃ z a' b', XL r rw_ i n best (nI L) (nI l) a = some (some (mx_I z), a') ∧ MLw r rw_ i n best (nI L) (nI l) b = some (some (mx_I z), b') ∧ kq JX a a' ∧ KM b b' ∧ b' 0 39 21 = -1 := by
  intro d
  induction d with
  | zero =>
    intro l best L a b lwx hd hl1 hL hx hw hi hm hf e22 e23 hi2
    have el : l = 3 := by omega
    subst el
    have hX := e_X_nearestLaw_12 rw_ (nI r) (nI i) (nI n) best (nI L) (nI 3) a
    have hM := e_M_counts_80 (nI r) (nI rw_) (nI i) (nI n) best (nI L) (nI 3) b
    rw [if_pos (by decide)] at hX hM
    rw [q_w] at hM
    refine ⟨best, a, _, hX, hM, kq_rf, fun k o j q1 q2 => by rw [q_up, if_neg q2], q_us⟩
  | succ d ih =>
    intro l best L a b lwx hd hl1 hL hx hw hi hm hf e22 e23 hi2
    obtain ⟨O, a1, b1, o1, o2, o3, o4, o5, o6, o7, o8⟩ := law_1 g h1 hr hrw hn hT hx hw hi hm hf e22 e23 hi2 (show l ≤ 2 by omega)
    have n1 : ∀ o j, ¬ o = 48 → ¬ o = 45 → ¬ (o = 39 ∧ j = 21) → b1 0 o j = b 0 o j := fun o j q1 q2 q3 => o8 0 o j (fun z => by rcases z with z | z <;> omega) (by omega)
    have hX := e_X_nearestLaw_12 rw_ (nI r) (nI i) (nI n) best (nI L) (nI l) a
    have hM := e_M_counts_80 (nI r) (nI rw_) (nI i) (nI n) best (nI L) (nI l) b
    have h3 : ¬ (3 : Int32) ≤ nI l := by rw [q_lit, q_leN (by decide) (by omega)]; omega
    have l0 : ¬ nI l = 0 := by rw [q_lit, q_eqN (by omega) (by decide)]; omega
    rw [if_neg h3, s_fill 1 11 _ _ (by decide) (by decide) (by decide), q_bV] at hX
    rw [s_fill 1 11 _ _ (by decide) (by decide) (by decide), q_bV] at o2
    rw [o2, q_bI, if_neg (q_lt0 (by omega)), nI_1] at hX
    rw [if_neg h3, q_w, o3, q_bI, if_neg l0, nI_1] at hM
    have rc := fun best' L' (hL' : L' ≤ 1200) => ih (l + 1) best' L' a1 b1 (fun _ => l) (by omega) (by omega) hL' o4 o5 o6 (hm.k (fun j => n1 43 j (by decide) (by decide) (by omega))) (fun y z hy hz => by rw [n1 47 _ (by decide) (by decide) (by omega)]; exact hf y z hy hz) (by rw [n1 39 22 (by decide) (by decide) (by omega)]; exact e22) (by rw [n1 39 23 (by decide) (by decide) (by omega)]; exact e23) (fun t ht => by rw [n1 42 _ (by decide) (by decide) (by omega)]; exact hi2 t ht)
    by_cases q : nI L ≤ nI O
    · rw [if_pos q] at hX
      rw [if_pos q, if_neg l0, if_pos q] at hM
      obtain ⟨z, a', b', y1, y2, y3, y4, y5⟩ := rc best L hL
      exact ⟨z, a', b', hX.trans y1, hM.trans y2, kq_tr o7 y3, o8.tr y4, y5⟩
    · rw [if_neg q] at hX
      rw [if_neg q, if_neg l0, if_neg q] at hM
      obtain ⟨z, a', b', y1, y2, y3, y4, y5⟩ := rc (nI l) O o1
      exact ⟨z, a', b', hX.trans y1, hM.trans y2, kq_tr o7 y3, o8.tr y4, y5⟩
theorem law_a {h : Nat → Nat} {D : Nat → Nat → Nat} {c : Cr} (g : GH h D c) (h1 : 1 ≤ h 2) {r rw_ i n : Nat} (hr : r < h 2) (hrw : rw_ < 8) (hn : i + n ≤ 40) {T : Nat → Nat} (hT : ∀ k, k < 40 → T k ≤ 30) {a b : mx_S} (hx : XP 1 h (mt0 h) (lw0 h) a) (hw : XW 1 (h 2) D a) (hi : ∀ t, t < n → a rw_ 33 (i + t) = nI (T t)) (hm : MH 43 h b) (hf : MF D b) (e22 : b 0 39 22 = -1) (e23 : b 0 39 23 = -1) (hi2 : ∀ t, t < n → b 0 42 (40 * rw_ + i + t) = nI (T t)) : ∃ z a' b', XL r rw_ i n 0 (-1) 0 a = some (some (mx_I z), a') ∧ MLw r rw_ i n 0 0 0 b = some (some (mx_I z), b') ∧ kq JX a a' ∧ KM b b' ∧ b' 0 39 21 = -1 := by
  obtain ⟨O, a1, b1, o1, o2, o3, o4, o5, o6, o7, o8⟩ := law_1 g h1 hr hrw hn hT hx hw hi hm hf e22 e23 hi2 (show 0 ≤ 2 by omega)
  have n1 : ∀ o j, ¬ o = 48 → ¬ o = 45 → ¬ (o = 39 ∧ j = 21) → b1 0 o j = b 0 o j := fun o j q1 q2 q3 => o8 0 o j (fun z => by rcases z with z | z <;> omega) (by omega)
  have hX := e_X_nearestLaw_12 rw_ (nI r) (nI i) (nI n) 0 (-1) (nI 0) a
  have hM := e_M_counts_80 (nI r) (nI rw_) (nI i) (nI n) 0 0 (nI 0) b
  rw [if_neg (by decide), s_fill 1 11 _ _ (by decide) (by decide) (by decide), q_bV] at hX
  rw [s_fill 1 11 _ _ (by decide) (by decide) (by decide), q_bV] at o2
  rw [o2, q_bI, if_pos (by decide), nI_1] at hX
  rw [if_neg (by decide), q_w, o3, q_bI, if_pos (by decide), if_pos (by decide), nI_1] at hM
  obtain ⟨z, a', b', y1, y2, y3, y4, y5⟩ := law_l g h1 hr hrw hn hT 2 1 (nI 0) O a1 b1 (fun _ => 0) (by omega) (by omega) o1 o4 o5 o6 (hm.k (fun j => n1 43 j (by decide) (by decide) (by omega))) (fun y z hy hz => by rw [n1 47 _ (by decide) (by decide) (by omega)]; exact hf y z hy hz) (by rw [n1 39 22 (by decide) (by decide) (by omega)]; exact e22) (by rw [n1 39 23 (by decide) (by decide) (by omega)]; exact e23) (fun t ht => by rw [n1 42 _ (by decide) (by decide) (by omega)]; exact hi2 t ht)
  exact ⟨z, a', b', hX.trans y1, hM.trans y2, kq_tr o7 y3, o8.tr y4, y5⟩
/-- the items, one by one -/
theorem items_l {a b : mx_S} {x1 : Int32} {rw_ i n : Nat} (hrw : rw_ < 8) (hn : i + n ≤ 40) (he : ∀ t, t < 40 → b 0 42 (40 * rw_ + t) = a rw_ 33 t) : ∀ (d t : Nat), t + d = n → (mx_H 83 43 [some (mx_R 0 28), some (mx_I x1), some (mx_I (nI rw_)), some (mx_I (nI i)), some (mx_I (nI n)), some (mx_I (nI t))] a = some (some (mx_I (-1000001)), a) ∧ mx_H 154 48 [some (mx_R 0 39), some (mx_I x1), some (mx_I (nI rw_)), some (mx_I (nI i)), some (mx_I (nI n)), some (mx_I (nI t)), none, none, none] b = some (some (mx_I (-1000001)), b)) ∨ (mx_H 83 43 [some (mx_R 0 28), some (mx_I x1), some (mx_I (nI rw_)), some (mx_I (nI i)), some (mx_I (nI n)), some (mx_I (nI t))] a = mx_H 83 43 [some (mx_R 0 28), some (mx_I x1), some (mx_I (nI rw_)), some (mx_I (nI i)), some (mx_I (nI n)), some (mx_I (nI n))] a ∧ mx_H 154 48 [some (mx_R 0 39), some (mx_I x1), some (mx_I (nI rw_)), some (mx_I (nI i)), some (mx_I (nI n)), some (mx_I (nI t)), none, none, none] b = mx_H 154 48 [some (mx_R 0 39), some (mx_I x1), some (mx_I (nI rw_)), some (mx_I (nI i)), some (mx_I (nI n)), some (mx_I (nI n)), none, none, none] b ∧ ∀ u, t ≤ u → u < n → ∃ y, y ≤ 30 ∧ a rw_ 33 (i + u) = nI y) := by
  have e30 : (30 : Int32).toInt = 30 := rfl
  have e0 : (0 : Int32).toInt = 0 := rfl
  have l30 : (30 : Int64).toInt = 30 := rfl
  have l0 : (0 : Int64).toInt = 0 := rfl
  intro d
  induction d with
  | zero =>
    intro t hd
    have et : t = n := by omega
    subst et
    exact Or.inr ⟨rfl, rfl, fun u h1 h2 => by omega⟩
  | succ d ih =>
    intro t hd
    have hX := e_X_counts_43 x1 (nI rw_) (nI i) (nI n) (nI t) a
    have hM := e_M_counts_48 x1 (nI rw_) (nI i) (nI n) (nI t) b
    have hlt : ¬ nI n ≤ nI t := by rw [q_leN (by omega) (by omega)]; omega
    have eb := he (i + t) (by omega)
    rw [show 40 * rw_ + (i + t) = 40 * rw_ + i + t by omega] at eb
    rw [if_neg hlt, q_g hrw (by decide), q_gx (n := i + t) (by rw [q_add]) (by omega) (by decide), nI_1] at hX
    rw [if_neg hlt, q_gx (n := 40 * rw_ + i + t) (by rw [q_lit, q_mul, q_add, q_add]) (by omega) (by decide), eb, nI_1] at hM
    by_cases q : (a rw_ 33 (i + t)).toInt < 0 ∨ 30 < (a rw_ 33 (i + t)).toInt
    · left
      rw [s_within1 _ 0 30 (by omega), q_bI, if_pos rfl] at hX
      rw [s_in1 _ _ _ (by rw [q_wide]; omega), q_bI, if_pos rfl] at hM
      exact ⟨hX, hM⟩
    · rw [s_within2 _ 0 30 (by omega) (by omega), q_bI, if_neg (by decide)] at hX
      rw [s_in2 _ _ _ (by rw [q_wide]; omega) (by rw [q_wide]; omega), q_bI, if_neg (by decide)] at hM
      rcases ih (t + 1) (by omega) with ⟨z1, z2⟩ | ⟨z1, z2, z3⟩
      · exact Or.inl ⟨hX.trans z1, hM.trans z2⟩
      · refine Or.inr ⟨hX.trans z1, hM.trans z2, fun u h1 h2 => ?_⟩
        by_cases e : u = t
        · subst e
          exact ⟨(a rw_ 33 (i + u)).toInt.toNat, by omega, q_of (by omega)⟩
        · exact z3 u (by omega) h2
theorem iv_counts {a b : mx_S} (x : INV a b) (x1 x2 x3 x4 : Int32) : Alk INV 83 154 [mx_I x1, mx_I x2, mx_I x3, mx_I x4] a b := by
  obtain ⟨h, D, c, g, xh, mh⟩ := x.l
  have h2 := g.hb.r2
  have mh0 := mh.t0
  have x0 := x.t0
  have hX := e_X_counts x1 x2 x3 x4 a
  have hM := e_M_counts x1 x2 x3 x4 b
  rw [xh.p.f2] at hX
  rw [q_w] at hM
  rcases q_ix x1 (n := h 2) (by omega) with q | ⟨r, hr, rfl⟩
  · rw [x_bel0 (by omega) q, q_bI, if_pos rfl] at hX
    rw [m_room0 g.hb mh0.m q, q_bI, if_pos rfl] at hM
    exact ⟨_, _, _, hX, hM, x0⟩
  rw [x_bel1 (by omega) hr, q_bI, if_neg (by decide)] at hX
  rw [m_room1 g.hb mh0.m hr, q_bI, if_neg (by decide)] at hM
  rcases q_ix x2 (n := 8) (by omega) with q | ⟨j, hj, rfl⟩
  · rw [s_below1 x2 8 8 rfl q, q_bI, if_pos rfl] at hX
    rw [s_isRow1 x2 q, q_bI, if_pos rfl] at hM
    exact ⟨_, _, _, hX, hM, x0⟩
  have hjI : (nI j).toInt = (j : Int) := q_toI (by omega)
  rw [s_below2 (nI j) 8 8 rfl (by omega) (by omega), q_bI, if_neg (by decide)] at hX
  rw [s_isRow2 hj, q_bI, if_neg (by decide)] at hM
  have e40 : (40 : Int32).toInt = 40 := rfl
  have e1 : (1 : Int32).toInt = 1 := rfl
  have l40 : (40 : Int64).toInt = 40 := rfl
  have l1 : (1 : Int64).toInt = 1 := rfl
  by_cases q4 : x4.toInt < 1 ∨ 40 < x4.toInt
  · rw [s_within1 x4 1 40 (by omega), q_bI, if_pos rfl] at hX
    rw [s_in1 _ _ _ (by rw [q_wide]; omega), q_bI, if_pos rfl] at hM
    exact ⟨_, _, _, hX, hM, x0⟩
  obtain ⟨n, hn, rfl⟩ : ∃ n : Nat, n ≤ 40 ∧ x4 = nI n := ⟨x4.toInt.toNat, by omega, q_of (by omega)⟩
  have hnI : (nI n).toInt = (n : Int) := q_toI (by omega)
  rw [s_within2 (nI n) 1 40 (by omega) (by omega), q_bI, if_neg (by decide), q_g hj (by decide)] at hX
  rw [s_in2 _ _ _ (by rw [q_wide]; omega) (by rw [q_wide]; omega), q_bI, if_neg (by decide), q_g hj (by decide)] at hM
  obtain ⟨⟨m, hm40, hm1, hm2⟩, hit, hln⟩ := x0.r j hj
  have hmI : (nI m).toInt = (m : Int) := q_toI (by omega)
  have fin : ∀ y : Int32, INV (mx_up a 0 28 9 y) (mx_up (mx_up b 0 39 0 0) 0 39 1 y) := fun y => x0.st y (fun k o j q => by rw [q_up, if_neg (by omega)]) q_us
  rcases hln with ⟨hms, hl⟩ | ⟨hms, l, hl3, -, hl⟩
  · rw [hms, if_neg (by decide), s_finding, q_bI] at hX
    rw [hl, if_neg (by decide), s_mfinding, q_bI] at hM
    exact ⟨_, _, _, hX, hM, fin 1⟩
  rw [hms, if_pos rfl, q_g hj (by decide)] at hX
  rw [hl, if_pos (q_le0 (by omega)), q_g hj (by decide), hm2] at hM
  have e0 : (0 : Int32).toInt = 0 := rfl
  by_cases q3 : 0 ≤ x3.toInt ∧ x3.toInt + n ≤ m
  · obtain ⟨i, hi, rfl⟩ : ∃ i : Nat, i ≤ 40 ∧ x3 = nI i := ⟨x3.toInt.toNat, by omega, q_of (by omega)⟩
    have hiI : (nI i).toInt = (i : Int) := q_toI (by omega)
    rw [s_holds2 hm1 hm40 (by omega) (by omega) (by omega), q_bI, if_neg (by decide), show mx_I 0 = mx_I (nI 0) from rfl] at hX
    rw [if_neg (q_lt0 (by omega)), if_pos (by rw [(q_cmp _ _).2.2.2.1, q_leL, q_wadd, q_wide]; omega), show mx_I 0 = mx_I (nI 0) from rfl] at hM
    rcases items_l (x1 := nI r) hj (show i + n ≤ 40 by omega) hit n 0 (by omega) with ⟨z1, z2⟩ | ⟨z1, z2, z3⟩
    · exact ⟨_, _, _, hX.trans z1, hM.trans z2, x0⟩
    · have hT : ∀ u, ∃ y, y ≤ 30 ∧ (u < n → a j 33 (i + u) = nI y) := fun u => by
        by_cases hu : u < n
        · obtain ⟨y, y1, y2⟩ := z3 u (by omega) hu
          exact ⟨y, y1, fun _ => y2⟩
        · exact ⟨0, by omega, fun z => absurd z hu⟩
      have hle : nI n ≤ nI n := (q_leN (by omega) (by omega)).mpr (Nat.le_refl _)
      obtain ⟨p2, p4, p6⟩ := g.n0 (show h 2 ≠ 0 by omega)
      obtain ⟨a1, t1, t2, t3, t4, -⟩ := trial g.hb xh
      have it1 : ∀ u, u < n → a j 33 (i + u) = nI (Classical.choose (hT u)) := fun u hu => (Classical.choose_spec (hT u)).2 hu
      obtain ⟨z, a2, b2, y1, y2, y3, y4, y5⟩ := law_a g p2 hr hj (show i + n ≤ 40 by omega) (T := fun u => Classical.choose (hT u)) (fun u _ => (Classical.choose_spec (hT u)).1) (a := a1) (b := mx_up (mx_up b 0 39 0 0) 0 39 1 0) t2 t3 (fun u hu => by rw [t4 j 33 _ (fun q => by have := q.2; omega)]; exact it1 u hu) (mh0.m.k (fun j => by rw [q_uo (by decide)])) (fun y z hy hz => by rw [q_uo (by decide)]; exact mh0.f y z hy hz) (by rw [q_uj (by decide)]; exact x0.e.2.1) (by rw [q_uj (by decide)]; exact x0.e.2.2) (fun u hu => by
        rw [q_uo (by decide), show 40 * j + i + u = 40 * j + (i + u) by omega, hit (i + u) (by omega)]; exact it1 u hu)
      rw [z1, e_X_counts_43, if_pos hle, q_g hj (by decide), e_X_nearestLaw, t1, q_bV] at hX
      rw [z2, e_M_counts_48, if_pos hle, q_w] at hM
      have y1' : mx_H 82 12 [some (mx_R 0 28), some (mx_I (nI r)), some (mx_R j 32), some (mx_I (nI i)), some (mx_I (nI n)), some (mx_I 0), some (mx_I (-1)), some (mx_I 0), none] a1 = some (some (mx_I z), a2) := y1
      rw [y1', q_bI, s_unfound, q_bI] at hX
      have hM2 := hM.trans y2
      refine ⟨z, _, b2, hX, hM2, ?_⟩
      have kb : ∀ k o j, ¬ JM k o j → ¬ (o = 39 ∧ j ≤ 1) → b2 k o j = mx_up b 0 39 0 0 k o j := fun k o j q1 q2 => by
        by_cases w : k = 0 ∧ o = 39 ∧ j = 21
        · rw [w.1, w.2.1, w.2.2, y5]; exact x0.e.1.symm
        · rw [y4 k o j (fun z => q1 (by unfold JM; rcases z with z | z <;> omega)) w, q_up, if_neg (by omega)]
      have i3 : INV a2 (mx_up b2 0 39 1 (mx_up b 0 39 0 0 0 39 1)) := x0.j (kq_tr (SP_J t4) y3) (fun k o j q1 => by
        by_cases w : k = 0 ∧ o = 39 ∧ j = 1
        · rw [w.1, w.2.1, w.2.2, q_us]
        · rw [q_up, if_neg w]
          by_cases w2 : o = 39 ∧ j ≤ 1
          · by_cases w3 : j = 0
            · exact absurd (show JM k o j by unfold JM; omega) q1
            · rw [y4 k o j (fun z => by rcases z with z | z <;> omega) (by omega), q_up, if_neg (by omega)]
          · exact kb k o j q1 w2)
      refine i3.st 0 (fun k o j q => by rw [q_up, if_neg (by omega)]) ?_
      rw [y4 0 39 1 (fun z => by rcases z with z | z <;> omega) (by omega), q_us]
  · rw [s_holds1 hm1 hm40 (by omega), q_bI, if_pos rfl, s_finding, q_bI] at hX
    by_cases q5 : x3 < 0
    · rw [if_pos q5, s_mfinding, q_bI] at hM
      exact ⟨_, _, _, hX, hM, fin 2⟩
    · have q5' : ¬ x3.toInt < 0 := fun w => q5 ((q_lt _ _).mpr w)
      rw [if_neg q5, if_neg (by rw [(q_cmp _ _).2.2.2.1, q_leL, q_wadd, q_wide]; omega), s_mfinding, q_bI] at hM
      exact ⟨_, _, _, hX, hM, fin 2⟩
