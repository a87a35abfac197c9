/-! ===== foretold: pictures, counts ===== -/
theorem XP.um {k : Nat} {h mt lw : Nat → Nat} {a : mx_S} (x : XP k h mt lw a) {p : Nat} (hp : p < h 4) {m : Nat} : XP k h (uf mt p m) lw (mx_up a k 8 p (nI m)) := by
  refine ⟨?_, ?_, ?_, ?_, ?_, ?_, ?_, fun i hi => ?_, fun i hi => ?_, fun i hi => ?_, fun i hi => ?_⟩
  · rw [q_uo (by decide)]; exact x.f0
  · rw [q_uo (by decide)]; exact x.f1
  · rw [q_uo (by decide)]; exact x.f2
  · rw [q_uo (by decide)]; exact x.f4
  · rw [q_uo (by decide)]; exact x.f8
  · rw [q_uo (by decide)]; exact x.f12
  · rw [q_uo (by decide)]; exact x.f17
  · rw [q_uo (by decide)]; exact x.rm i hi
  · rw [q_uo (by decide), q_uo (by decide), q_uo (by decide)]; exact x.dr i hi
  · obtain ⟨g1, g2, g3⟩ := x.pc i hi
    refine ⟨by rw [q_uo (by decide)]; exact g1, by rw [q_uo (by decide)]; exact g2, ?_⟩
    by_cases e : i = p
    · subst e; rw [uf_s, q_us]
    · rw [uf_o e, q_uj e]; exact g3
  · rw [q_uo (by decide), q_uo (by decide), q_uo (by decide), q_uo (by decide)]; exact x.gr i hi
theorem iv_picture {a b : mx_S} (x : INV a b) (x1 x2 x3 : Int32) : Alk INV 97 180 [mx_I x1, mx_I x2, mx_I x3] a b := by
  obtain ⟨h, D, c, g, xh, mh⟩ := x.l
  have r4 := g.hb.r4
  have mh0 := mh.t0
  have x0 := x.t0
  have hX := e_X_picture x1 x2 x3 a
  have hM := e_M_picture x1 x2 x3 b
  rw [xh.p.f8] at hX
  rw [q_w, q_gl (by decide) (by decide), mh0.m 4 (by decide)] at hM
  rcases q_ix x1 (n := h 4) (by omega) with q | ⟨p, hp, rfl⟩
  · rw [x_bel0 (by omega) q, q_bI, if_pos rfl] at hX
    rw [m_in0 (by omega) q, q_bI, if_pos rfl] at hM
    exact ⟨_, _, _, hX, hM, x0⟩
  rw [x_bel1 (by omega) hp, q_bI, if_neg (by decide)] at hX
  rw [m_in1 (by omega) hp, q_bI, if_neg (by decide)] at hM
  by_cases q : x2.toInt < 1 ∨ 120 < x2.toInt
  · rw [(day0 q a b).1, q_bI, if_neg (by decide)] at hX
    rw [(day0 q a _).2, q_bI, if_pos rfl] at hM
    exact ⟨_, _, _, hX, hM, x0⟩
  obtain ⟨d1, d2, n, hn, rfl⟩ := day1 q
  rw [d1, q_bI, if_pos rfl] at hX
  rw [d2, q_bI, if_neg (by decide)] at hM
  have l1 : (1 : Int64).toInt = 1 := rfl
  have l0 : (0 : Int64).toInt = 0 := rfl
  rcases q_ix x3 (n := 2) (by omega) with q3 | ⟨j, hj, rfl⟩
  · rw [s_below1 x3 2 2 rfl q3, q_bI, if_pos rfl] at hX
    rw [s_in1 _ _ _ (by rw [q_wide]; omega), q_bI, if_pos rfl] at hM
    exact ⟨_, _, _, hX, hM, x0⟩
  have hjI : (nI j).toInt = (j : Int) := q_toI (by omega)
  obtain ⟨p2, p4, p6⟩ := g.n0 (g.n5 (Or.inr (by omega)))
  obtain ⟨a1, t1, t2, t3, t4, -⟩ := trial g.hb xh
  obtain ⟨a2, u1, u2⟩ := s_xday g.hb p2 p6 g.hD g.lw hn 0 0 t2 t3
  have me := g.me mh0.m mh0.f x0.e.1 x0.e.2.1
  obtain ⟨b2, v1, v2⟩ := s_mday g.hb p2 g.hD hn 0 me (DN.i x0.e.2.2)
  have n39 : ∀ k o j, o = 39 ∨ o = 43 ∨ o = 47 → ¬ S458 1 k o j := fun k o j ho z => by rcases z with z | z <;> omega
  have me2 := me.q v2
  have e39 : ∀ j, b2 0 39 j = mx_up b 0 39 0 0 0 39 j := fun j => v2 0 39 j (n39 _ _ _ (by omega))
  rw [s_below2 (nI j) 2 2 rfl (by omega) (by omega), q_bI, if_neg (by decide), t1, q_bV, u1, q_bI] at hX
  rw [s_in2 _ _ _ (by rw [q_wide]; omega) (by rw [q_wide]; omega), q_bI, if_neg (by decide), v1, q_bI] at hM
  have kA : kq JX a a2 := kq_tr (SP_J t4) (SXb_J u2)
  have hx2 := t2.b u2
  have hw2 := t3.b u2
  have jc : j = 0 ∨ j = 1 := by omega
  rcases jc with rfl | rfl
  · have xm := (hx2.pc p hp).2.2
    have hx3 : XP 1 h (uf (mt0 h) p (mt0 h p - 1)) (lw0 h) (mx_up a2 1 8 p (nI (mt0 h p - 1))) := hx2.um hp
    have hw3 : XW 1 (h 2) D (mx_up a2 1 8 p (nI (mt0 h p - 1))) := hw2.k (fun o j q1 q2 => by rw [q_uo (by omega)])
    obtain ⟨a3, w1, w2⟩ := s_xday g.hb p2 p6 g.hD g.lw hn 0 0 hx3 hw3
    have me3 : ME h (uf (mt0 h) p (mt0 h p - 1)) (lw0 h) D (mx_up (mx_up b2 0 39 22 (nI p)) 0 39 23 (-1)) := by
      refine ⟨me2.m.k (fun j => by rw [q_uo (by decide), q_uo (by decide)]), fun y z hy hz => by rw [q_uo (by decide), q_uo (by decide)]; exact me2.f y z hy hz, fun gg hg => ?_, fun q hq => ?_⟩
      · rw [q_uj (by decide), q_uj (by decide)]; exact me2.l gg hg
      · rw [q_uj (by decide), q_us]
        by_cases e : q = p
        · subst e
          refine Or.inl ⟨rfl, ?_⟩
          rw [uf_s]
          unfold mt0
          omega
        · refine Or.inr ⟨by rw [Ne, q_eqN (by omega) (by omega)]; omega, ?_⟩
          rw [uf_o e]; rfl
    obtain ⟨b3, y1, y2⟩ := s_mday g.hb p2 g.hD hn 0 me3 (DN.i q_us)
    have em : nI (mt0 h p) - 1 = nI (mt0 h p - 1) := by
      rw [show (1 : Int32) = nI 1 from rfl, q_sub]
      unfold mt0
      omega
    rw [if_neg (by decide), q_g (show p < 8 by omega) (by decide), q_g (show p < 8 by omega) (by decide), q_w, xm, em, w1, q_bI] at hX
    rw [if_pos (by decide), q_w, if_neg (by decide), q_w, y1, q_bI, q_w, q_w, if_pos (by decide)] at hM
    refine ⟨_, _, _, hX, hM, x0.j (kq_tr kA (kq_tr (kq_up kq_rf (Or.inl ⟨rfl, by omega⟩)) (SXb_J w2))) (fun k o j q => ?_)⟩
    have ns : ¬ S458 1 k o j := fun z => q (by unfold JM; rcases z with z | z <;> omega)
    by_cases z1 : k = 0 ∧ o = 39 ∧ j = 23
    · rw [z1.1, z1.2.1, z1.2.2, q_us]; exact x0.e.2.2.symm
    · by_cases z2 : k = 0 ∧ o = 39 ∧ j = 22
      · rw [z2.1, z2.2.1, z2.2.2, q_uj (by decide), q_us]; exact x0.e.2.1.symm
      · rw [q_up, if_neg z1, q_up, if_neg z2, y2 k o j ns, q_up, if_neg z1, q_up, if_neg z2, v2 k o j ns]
  · obtain ⟨a3, w1, w2⟩ := s_xday g.hb p2 p6 g.hD g.lw hn 0 ((1 : Int32) <<< (nI p &&& 31)) hx2 hw2
    have me3 : ME h (mt0 h) (lw0 h) D (mx_up (mx_up b2 0 39 22 (-1)) 0 39 23 (nI p)) := by
      refine ⟨me2.m.k (fun j => by rw [q_uo (by decide), q_uo (by decide)]), fun y z hy hz => by rw [q_uo (by decide), q_uo (by decide)]; exact me2.f y z hy hz, fun gg hg => ?_, fun q hq => Or.inr ⟨?_, rfl⟩⟩
      · rw [q_uj (by decide), q_uj (by decide)]; exact me2.l gg hg
      · rw [q_uj (by decide), q_us]; exact fun z => nI_m1 (by omega) z.symm
    obtain ⟨b3, y1, y2⟩ := s_mday g.hb p2 g.hD hn 0 me3 (dn := (1 : Int32) <<< (nI p &&& 31)) (Or.inl ⟨by rw [q_us]; exact q_le0 (by omega), by rw [q_us]⟩)
    rw [if_pos (by decide), w1, q_bI] at hX
    rw [if_neg (by decide), q_w, if_pos (by decide), q_w, y1, q_bI, q_w, q_w, if_neg (by decide)] at hM
    refine ⟨_, _, _, hX, hM, x0.j (kq_tr kA (SXb_J w2)) (fun k o j q => ?_)⟩
    have ns : ¬ S458 1 k o j := fun z => q (by unfold JM; rcases z with z | z <;> omega)
    by_cases z1 : k = 0 ∧ o = 39 ∧ j = 23
    · rw [z1.1, z1.2.1, z1.2.2, q_us]; exact x0.e.2.2.symm
    · by_cases z2 : k = 0 ∧ o = 39 ∧ j = 22
      · rw [z2.1, z2.2.1, z2.2.2, q_uj (by decide), q_us]; exact x0.e.2.1.symm
      · rw [q_up, if_neg z1, q_up, if_neg z2, y2 k o j ns, q_up, if_neg z1, q_up, if_neg z2, v2 k o j ns]
/-! counts -/
def adN (x y : Nat) : Nat := if y ≤ x then x - y else y - x
theorem adX {x y : Nat} (hx : x < 1000) (hy : y < 1000) : (if 0 ≤ nI x - nI y then nI x - nI y else 0 - (nI x - nI y)) = nI (adN x y) ∧ (¬ 0 ≤ nI x - nI y → -(nI x - nI y) = nI (adN x y)) ∧ (0 ≤ nI x - nI y → nI x - nI y = nI (adN x y)) := by
  have t : (nI x - nI y).toInt = (x : Int) - y := pk_sub_toInt (by omega) (by omega)
  have e0 : (0 : Int32).toInt = 0 := rfl
  unfold adN
  by_cases q : y ≤ x
  · have p : 0 ≤ nI x - nI y := by rw [q_le, e0, t]; omega
    exact ⟨by rw [if_pos p, if_pos q, q_sub q], fun z => absurd p z, fun _ => by rw [if_pos q, q_sub q]⟩
  · have p : ¬ 0 ≤ nI x - nI y := by rw [q_le, e0, t]; omega
    have e : -(nI x - nI y) = nI (y - x) := by rw [Int32.neg_sub, q_sub (by omega)]
    exact ⟨by rw [if_neg p, if_neg q, Int32.zero_sub, e], fun _ => by rw [if_neg q, e], fun z => absurd z p⟩
def offF (h mt lw : Nat → Nat) (D : Nat → Nat → Nat) (r : Nat) (T : Nat → Nat) : Nat → Nat → Cr → Nat → Nat
  | 0, _, _, acc => acc
  | d + 1, k, c, acc => offF h mt lw D r T d (k + 1) (minC h mt lw D c) (acc + adN (cnt (minC h mt lw D c) (nI r) (h 6)) (T k))
theorem offF_le {h mt lw : Nat → Nat} (hb : HB h) {D : Nat → Nat → Nat} {r : Nat} {T : Nat → Nat} (hT : ∀ k, k < 40 → T k ≤ 30) : ∀ (d k : Nat) (c : Cr) (acc : Nat), k + d ≤ 40 → offF h mt lw D r T d k c acc ≤ acc + 30 * d
  | 0, _, _, acc, _ => Nat.le_refl _
  | d + 1, k, c, acc, hk => by
    have h6 := hb.r6
    have l := cnt_le (minC h mt lw D c) (nI r) (h 6)
    have t := hT k (by omega)
    have y := offF_le (mt := mt) (lw := lw) (D := D) (r := r) hb hT d (k + 1) (minC h mt lw D c) (acc + adN (cnt (minC h mt lw D c) (nI r) (h 6)) (T k)) (by omega)
    have z : adN (cnt (minC h mt lw D c) (nI r) (h 6)) (T k) ≤ 30 := by
      unfold adN
      split <;> omega
    show offF h mt lw D r T d (k + 1) (minC h mt lw D c) (acc + adN (cnt (minC h mt lw D c) (nI r) (h 6)) (T k)) ≤ _
    omega
theorem x_off {h mt lw : Nat → Nat} (hb : HB h) (h1 : 1 ≤ h 2) {D : Nat → Nat → Nat} (hD : DS h D) (hl : ∀ g, g < h 5 → lw g ≤ 2) {r rw_ i n : Nat} (hr : r < h 2) (hn : i + n ≤ 40) {T : Nat → Nat} (hT : ∀ k, k < 40 → T k ≤ 30) : ∀ (d k : Nat) (c : Cr) (acc : Nat) (a : mx_S), k + d = n → CB h c → XP 1 h mt lw a → XW 1 (h 2) D a → XB 1 h c a → XA 1 h lw D c a → (∀ t, t < n → a rw_ 33 (i + t) = nI (T t)) → ∃ a', mx_H 81 10 [some (mx_R 0 28), some (mx_I (nI r)), some (mx_R rw_ 32), some (mx_I (nI i)), some (mx_I (nI n)), some (mx_I (nI acc)), some (mx_I (nI k))] a = some (some (mx_I (nI (offF h mt lw D r T d k c acc))), a') ∧ kq (SXb 1) a a' := by
  have h6 := hb.r6
  have h2 := hb.r2
  intro d
  induction d with
  | zero =>
    intro k c acc a hd cb hx hw x xa hi
    have ek : k = n := by omega
    subst ek
    refine ⟨a, ?_, kq_rf⟩
    rw [e_X_offBy_10, if_pos ((q_leN (by omega) (by omega)).mpr (Nat.le_refl _))]; rfl
  | succ d ih =>
    intro k c acc a hd cb hx hw x xa hi
    obtain ⟨a1, f1, f2, f3, f4⟩ := s_xminute hb h1 hD hl cb hx hw x xa
    have l := cnt_le (minC h mt lw D c) (nI r) (h 6)
    have it : ∀ t, t < n → a1 rw_ 33 (i + t) = nI (T t) := fun t ht => by rw [f4 rw_ 33 _ (fun q => by have := q.2; omega)]; exact hi t ht
    have hX := e_X_offBy_10 rw_ (nI r) (nI i) (nI n) (nI acc) (nI k) a
    have tk := hT k (by omega)
    rw [if_neg (by rw [q_leN (by omega) (by omega)]; omega), f1, q_bV, q_g (show r < 6 by omega) (by decide), q_gx (n := i + k) (by rw [q_add]) (by omega) (by decide), f2.ins r hr, it k (by omega), (adX (by omega) (by omega)).1, q_add, nI_1] at hX
    obtain ⟨a', y1, y2⟩ := ih (k + 1) _ (acc + adN (cnt (minC h mt lw D c) (nI r) (h 6)) (T k)) a1 (by omega) (cb.min hb h1 hD) (hx.x f4) (hw.x f4) f2 f3 it
    exact ⟨a', hX.trans y1, kq_tr (SX_b f4) y2⟩
theorem x_offBy {h mt lw : Nat → Nat} (hb : HB h) (h1 : 1 ≤ h 2) {D : Nat → Nat → Nat} (hD : DS h D) (hl : ∀ g, g < h 5 → lw g ≤ 2) {r rw_ i n : Nat} (hr : r < h 2) (hn : i + n ≤ 40) {T : Nat → Nat} (hT : ∀ k, k < 40 → T k ≤ 30) {a : mx_S} (hx : XP 1 h mt lw a) (hw : XW 1 (h 2) D a) (hi : ∀ t, t < n → a rw_ 33 (i + t) = nI (T t)) : ∃ a', mx_sem 81 [mx_R 0 28, mx_I (nI r), mx_R rw_ 32, mx_I (nI i), mx_I (nI n)] a = some (some (mx_I (nI (offF h mt lw D r T n 0 (c0 h 0 (h 6)) 0))), a') ∧ kq (SXb 1) a a' := by
  obtain ⟨a1, f1, f2, f3, f4⟩ := s_begin hb D lw (dn := 0) hx
  obtain ⟨a', y1, y2⟩ := x_off hb h1 hD hl hr hn hT n 0 _ 0 a1 (by omega) (CB.c0 0) (hx.b f4) (hw.b f4) f2 f3 (fun t ht => by rw [f4 rw_ 33 _ (fun q => by have := q.2; omega)]; exact hi t ht)
  refine ⟨a', ?_, kq_tr f4 y2⟩
  rw [e_X_offBy, f1, q_bV]
  exact y1
theorem m_off {h mt lw : Nat → Nat} (hb : HB h) (h1 : 1 ≤ h 2) {D : Nat → Nat → Nat} (hD : DS h D) {r f n : Nat} (hn : n ≤ 40) (hf : f + n ≤ 320) {T : Nat → Nat} (hT : ∀ k, k < 40 → T k ≤ 30) : ∀ (d k : Nat) (c : Cr) (acc : Nat) (b : mx_S), k + d = n → CB h c → ME h mt lw D b → MC 1 c b → (∀ t, t < n → b 0 42 (f + t) = nI (T t)) → ∃ b', mx_H 153 9 [some (mx_R 0 39), some (mx_I (nI r)), some (mx_I (nI f)), some (mx_I (nI n)), some (mx_I (nI acc)), some (mx_I (nI k)), none] b = some (some (mx_I (nI (offF h mt lw D r T d k c acc))), b') ∧ kq (S458 1) b b' := by
  have h6 := hb.r6
  intro d
  induction d with
  | zero =>
    intro k c acc b hd cb e hc hi
    have ek : k = n := by omega
    subst ek
    refine ⟨b, ?_, kq_rf⟩
    rw [e_M_offBy_9, if_pos ((q_leN (by omega) (by omega)).mpr (Nat.le_refl _))]; rfl
  | succ d ih =>
    intro k c acc b hd cb e hc hi
    obtain ⟨b1, f1, f2, f3⟩ := s_minute hb h1 hD e cb hc
    have l := cnt_le (minC h mt lw D c) (nI r) (h 6)
    have e1 := e.q f3
    have it : ∀ t, t < n → b1 0 42 (f + t) = nI (T t) := fun t ht => by rw [f3 0 42 _ (fun q => by rcases q with q | q <;> omega)]; exact hi t ht
    have tk := hT k (by omega)
    have hX := e_M_offBy_9 (nI r) (nI f) (nI n) (nI acc) (nI k) b
    rw [if_neg (by rw [q_leN (by omega) (by omega)]; omega), f1, q_bV, s_inRoom hb e1.m f2, q_bI, q_gx (n := f + k) (by rw [q_add]) (by omega) (by decide), it k (by omega)] at hX
    obtain ⟨b', y1, y2⟩ := ih (k + 1) _ (acc + adN (cnt (minC h mt lw D c) (nI r) (h 6)) (T k)) b1 (by omega) (cb.min hb h1 hD) e1 f2 it
    obtain ⟨-, ax, ay⟩ := adX (x := cnt (minC h mt lw D c) (nI r) (h 6)) (y := T k) (by omega) (by omega)
    refine ⟨b', ?_, kq_tr f3 y2⟩
    by_cases q : 0 ≤ nI (cnt (minC h mt lw D c) (nI r) (h 6)) - nI (T k)
    · rw [if_pos q, ay q, q_add, nI_1] at hX
      exact hX.trans y1
    · rw [if_neg q, ax q, q_add, nI_1] at hX
      exact hX.trans y1
theorem m_offBy {h mt lw : Nat → Nat} (hb : HB h) (h1 : 1 ≤ h 2) {D : Nat → Nat → Nat} (hD : DS h D) {r f n : Nat} (hn : n ≤ 40) (hf : f + n ≤ 320) {T : Nat → Nat} (hT : ∀ k, k < 40 → T k ≤ 30) {b : mx_S} (e : ME h mt lw D b) (dn : b 0 39 23 = -1) (hi : ∀ t, t < n → b 0 42 (f + t) = nI (T t)) : ∃ b', mx_sem 153 [mx_R 0 39, mx_I (nI r), mx_I (nI f), mx_I (nI n)] b = some (some (mx_I (nI (offF h mt lw D r T n 0 (c0 h 0 (h 6)) 0))), b') ∧ kq (S458 1) b b' := by
  obtain ⟨b1, f1, f2, f3⟩ := s_opens hb (kk := 1) e.m (DN.i dn)
  obtain ⟨b', y1, y2⟩ := m_off hb h1 hD (r := r) hn hf hT n 0 _ 0 b1 (by omega) (CB.c0 0) (e.q (S45_8 f3)) f2 (fun t ht => by rw [f3 0 42 _ (fun q => by have := q.2; omega)]; exact hi t ht)
  refine ⟨b', ?_, kq_tr (S45_8 f3) y2⟩
  rw [e_M_offBy, f1, q_bV]
  exact y1
