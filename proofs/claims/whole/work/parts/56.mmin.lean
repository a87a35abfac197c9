/-! ===== M's minute ===== -/
def MC (kk : Nat) (c : Cr) (b : mx_S) : Prop := ∀ i, i < 421 → b kk 45 i = c i
theorem MC.up {kk : Nat} {c : Cr} {b : mx_S} (x : MC kk c b) (i : Nat) (y : Int32) : MC kk (fup c i y) (mx_up b kk 45 i y) := by
  intro j hj
  by_cases e : j = i
  · subst e; rw [q_us, fup_s]
  · rw [q_uj e, fup_o e]; exact x j hj
theorem MC.k {kk : Nat} {c : Cr} {b b' : mx_S} (x : MC kk c b) (e : ∀ j, b' kk 45 j = b kk 45 j) : MC kk c b' := fun i hi => by rw [e i]; exact x i hi
def S45 (kk k o _j : Nat) : Prop := k = kk ∧ o = 45
def S458 (kk k o _j : Nat) : Prop := (k = kk ∧ o = 45) ∨ o = 48
theorem S45_8 {kk : Nat} {b b' : mx_S} (h : kq (S45 kk) b b') : kq (S458 kk) b b' := kq_mono h (fun _ _ _ q => Or.inl q)
/-- what M goes by in a minute -/
def ME (h mt lw : Nat → Nat) (D : Nat → Nat → Nat) (b : mx_S) : Prop :=
  (MH 43 h b) ∧ (MF D b) ∧ (∀ g, g < h 5 → lw g ≤ 2 ∧ (((b 0 39 21).toInt < 0 ∧ lw g = h (58 + 4 * g)) ∨ b 0 39 21 = nI (lw g))) ∧ (∀ p, p < h 4 → (b 0 39 22 = nI p ∧ mt p = 1 + h (41 + 2 * p) / 10) ∨ (b 0 39 22 ≠ nI p ∧ mt p = 2 + h (41 + 2 * p) / 10))
theorem ME.m {h mt lw : Nat → Nat} {D : Nat → Nat → Nat} {b : mx_S} (x_ : ME h mt lw D b) : MH 43 h b := x_.1
theorem ME.f {h mt lw : Nat → Nat} {D : Nat → Nat → Nat} {b : mx_S} (x_ : ME h mt lw D b) : MF D b := x_.2.1
theorem ME.l {h mt lw : Nat → Nat} {D : Nat → Nat → Nat} {b : mx_S} (x_ : ME h mt lw D b) : ∀ g, g < h 5 → lw g ≤ 2 ∧ (((b 0 39 21).toInt < 0 ∧ lw g = h (58 + 4 * g)) ∨ b 0 39 21 = nI (lw g)) := x_.2.2.1
theorem ME.t {h mt lw : Nat → Nat} {D : Nat → Nat → Nat} {b : mx_S} (x_ : ME h mt lw D b) : ∀ p, p < h 4 → (b 0 39 22 = nI p ∧ mt p = 1 + h (41 + 2 * p) / 10) ∨ (b 0 39 22 ≠ nI p ∧ mt p = 2 + h (41 + 2 * p) / 10) := x_.2.2.2
theorem ME.k {h mt lw : Nat → Nat} {D : Nat → Nat → Nat} {b b' : mx_S} (x : ME h mt lw D b) (e : ∀ o j, o = 39 ∨ o = 43 ∨ o = 47 → b' 0 o j = b 0 o j) : ME h mt lw D b' := by
  refine ⟨x.m.k (fun j => e 43 j (by omega)), fun y z hy hz => ?_, fun g hg => ?_, fun p hp => ?_⟩
  · rw [e 47 _ (by omega)]; exact x.f y z hy hz
  · rw [e 39 _ (by omega)]; exact x.l g hg
  · rw [e 39 _ (by omega)]; exact x.t p hp
theorem ME.q {h mt lw : Nat → Nat} {D : Nat → Nat → Nat} {kk : Nat} {b b' : mx_S} (x : ME h mt lw D b) (e : kq (S458 kk) b b') : ME h mt lw D b' := x.k (fun o j ho => e 0 o j (fun q => by rcases q with q | q <;> omega))
theorem g14 {α : Type} {fl : α} {v i : Nat} {f : Nat → α} {y : Int32} (hv : v < 30) (hi : i < 14) (hy : y = nI i) : mx_g fl ((14 : Int32) * nI v + y) 421 f = f (14 * v + i) := by
  subst hy
  exact q_gx (by rw [q_lit, q_mul, q_add]) (by omega) (by decide)
theorem g420 {α : Type} {fl : α} {f : Nat → α} : mx_g fl (420 : Int32) 421 f = f 420 := q_gl (n := 420) (by decide) (by decide)
/-! groups -/
theorem s_grp5 {h : Nat → Nat} (hb : HB h) {b : mx_S} (hm : MH 43 h b) {v : Nat} (hv : v < h 6) : ∀ (d g : Nat), g + d = gO h v → mx_H 110 5 [some (mx_R 0 39), none, some (mx_I (nI (v - sm h g))), some (mx_I (nI g))] b = some (some (mx_I (nI (gO h v))), b) := by
  obtain ⟨o1, o2, o3⟩ := gO_ok hb hv
  have h5 := hb.r5
  have h6 := hb.r6
  intro d
  induction d with
  | zero =>
    intro g hd
    have e : g = gO h v := by omega
    subst e
    have o4 : v < sm h (gO h v) + h (56 + 4 * gO h v) := o3
    have o5 := (hb.gr _ o1).2.1
    rw [e_M_groupOf_5, q_gx (n := 56 + 4 * gO h v) (by rw [q_lit, q_lit, q_mul, q_add]) (by omega) (by decide), hm _ (by omega), if_pos ((q_ltN (by omega) (by omega)).mpr (by omega))]
  | succ d ih =>
    intro g hd
    have hg : g < h 5 := by omega
    have o5 := (hb.gr _ hg).2.1
    have o6 := sm_mono h (gO h v) (g + 1) (by omega)
    have o7 : sm h (g + 1) = sm h g + h (56 + 4 * g) := rfl
    have hih := ih (g + 1) (by omega)
    rw [e_M_groupOf_5, q_gx (n := 56 + 4 * g) (by rw [q_lit, q_lit, q_mul, q_add]) (by omega) (by decide), hm _ (by omega), if_neg (by rw [q_ltN (by omega) (by omega)]; omega), q_gx (n := 56 + 4 * g) (by rw [q_lit, q_lit, q_mul, q_add]) (by omega) (by decide), hm _ (by omega), q_sub (by omega), nI_1, show v - sm h g - h (56 + 4 * g) = v - sm h (g + 1) by omega]
    exact hih
theorem s_groupOf {h : Nat → Nat} (hb : HB h) {b : mx_S} (hm : MH 43 h b) {v : Nat} (hv : v < h 6) : mx_sem 110 [mx_R 0 39, mx_I (nI v)] b = some (some (mx_I (nI (gO h v))), b) := by
  rw [e_M_groupOf]
  exact s_grp5 hb hm hv (gO h v) 0 (by omega)
theorem s_told {h : Nat → Nat} (hb : HB h) {b : mx_S} (hm : MH 43 h b) {v w : Nat} (hv : v < h 6) (hw : w < 4) {y : Int32} (hy : y = nI w) : mx_sem 111 [mx_R 0 39, mx_I (nI v), mx_I y] b = some (some (mx_I (nI (h (56 + 4 * gO h v + w)))), b) := by
  have o1 := (gO_ok hb hv).1
  have h5 := hb.r5
  subst hy
  rw [e_M_told, s_groupOf hb hm hv, q_bI, q_gx (n := 56 + 4 * gO h v + w) (by rw [q_lit, q_lit, q_mul, q_add, q_add]) (by omega) (by decide), hm _ (by omega)]
theorem s_lawNow {h mt lw : Nat → Nat} (hb : HB h) {D : Nat → Nat → Nat} {b : mx_S} (e : ME h mt lw D b) {v : Nat} (hv : v < h 6) : mx_sem 112 [mx_R 0 39, mx_I (nI v)] b = some (some (mx_I (nI (lw (gO h v)))), b) := by
  have o1 := (gO_ok hb hv).1
  obtain ⟨l1, l2⟩ := e.l _ o1
  have e0 : (0 : Int32).toInt = 0 := rfl
  rw [e_M_lawNow]
  by_cases c : (b 0 39 21).toInt < 0
  · rw [if_neg (by rw [q_le, e0]; omega), s_told hb e.m hv (w := 2) (by decide) (by rfl), q_bI]
    rcases l2 with l2 | l2
    · rw [l2.2, show 56 + 4 * gO h v + 2 = 58 + 4 * gO h v by omega]
    · rw [l2, q_toI (by omega)] at c
      omega
  · rw [if_pos (by rw [q_le, e0]; omega)]
    rcases l2 with l2 | l2
    · exact absurd l2.1 c
    · rw [l2]
/-! the aim -/
theorem s_isOpen {h mt lw : Nat → Nat} (hb : HB h) {D : Nat → Nat → Nat} (hD : DS h D) {kk : Nat} {b : mx_S} (e : ME h mt lw D b) {v r p : Nat} {dn : Int32} (hv : v < 30) (hr : r < h 2) (hp : p < h 4) (h1 : b kk 45 (14 * v) = nI r) (h2 : b kk 45 (14 * v + 3) = dn) : mx_sem 113 [mx_R 0 39, mx_R kk 45, mx_I (nI v), mx_I (nI p)] b = some (some (mx_I (if opn h D r dn p = true then 1 else 0)), b) := by
  have h4 := hb.r4
  have r2 := hb.r2
  have pc := (hb.pc p hp).1
  have l := (hD r _ hr pc).1
  rw [e_M_isOpen, g14 (i := 3) hv (by decide) (by rfl), h2]
  unfold opn
  by_cases c : dn >>> (nI p &&& 31) &&& 1 = 0
  · rw [if_pos c, g14 (i := 0) hv (by decide) (by rfl), q_gx (n := 40 + 2 * p) (by rw [q_lit, q_lit, q_mul, q_add]) (by omega) (by decide), e.m _ (by omega), show 14 * v + 0 = 14 * v from rfl, h1, q_gx (n := 6 * r + h (40 + 2 * p)) (by rw [q_lit, q_mul, q_add]) (by omega) (by decide), e.f _ _ (by omega) (by omega)]
    by_cases c2 : D r (h (40 + 2 * p)) = 1000
    · rw [if_pos ((fv_no l).mpr c2), if_neg (by rw [decide_eq_false (p := D r (h (40 + 2 * p)) ≠ 1000) (fun q => q c2)]; simp)]
    · rw [if_neg (fun q => c2 ((fv_no l).mp q)), if_pos (by rw [decide_eq_true c, decide_eq_true c2]; rfl)]
  · rw [if_neg c, if_neg (by rw [decide_eq_false c]; simp)]
theorem s_aim15 {h mt lw : Nat → Nat} (hb : HB h) {D : Nat → Nat → Nat} (hD : DS h D) {kk : Nat} {b : mx_S} (e : ME h mt lw D b) {v r : Nat} {dn : Int32} (hv : v < h 6) (hr : r < h 2) (h1 : b kk 45 (14 * v) = nI r) (h2 : b kk 45 (14 * v + 3) = dn) {fl : Int32} (hfl : fl = if lw (gO h v) = 0 then 1 else 0) : ∀ (d p best : Nat) (most : Int32), p + d = h 4 → (best = 1000 ∨ best < p) → mx_H 114 15 [some (mx_R 0 39), some (mx_R kk 45), some (mx_I (nI v)), some (mx_I (fv best)), some (mx_I most), some (mx_I fl), some (mx_I (nI p)), none, none, none] b = some (some (mx_I (fv (aimR h D (lw (gO h v)) r dn d p best most))), b) := by
  have h4 := hb.r4
  have h6 := hb.r6
  have r2 := hb.r2
  have l2 := (e.l _ (gO_ok hb hv).1).1
  generalize hl : lw (gO h v) = l at l2 hfl
  intro d
  induction d with
  | zero =>
    intro p best most hp hbst
    rw [e_M_aim_15, q_gl (by decide) (by decide), e.m 4 (by decide), if_pos ((q_leN (by omega) (by omega)).mpr (by omega))]
    rfl
  | succ d ih =>
    intro p best most hp hbst
    have hX := e_M_aim_15 kk (nI v) (fv best) most fl (nI p) b
    rw [q_gl (by decide) (by decide), e.m 4 (by decide), if_neg (by rw [q_leN (by omega) (by omega)]; omega), s_isOpen hb hD e (show v < 30 by omega) hr (show p < h 4 by omega) h1 h2, q_bI, nI_1] at hX
    have pc := (hb.pc p (by omega)).1
    unfold aimR
    by_cases c : opn h D r dn p = true
    · have c1 : D r (h (40 + 2 * p)) ≠ 1000 := by
        unfold opn at c
        rw [Bool.and_eq_true, decide_eq_true_eq, decide_eq_true_eq] at c
        exact c.2
      have lD := (hD r _ hr pc).1
      rw [if_pos c, if_neg (by decide), q_gx (n := 40 + 2 * p + 1) (by rw [q_lit, q_lit, q_lit, q_mul, q_add, q_add]) (by omega) (by decide), g14 (i := 0) (show v < 30 by omega) (by decide) (by rfl), q_gx (n := 40 + 2 * p) (by rw [q_lit, q_lit, q_mul, q_add]) (by omega) (by decide), e.m _ (by omega), e.m _ (by omega), show 14 * v + 0 = 14 * v from rfl, h1, q_gx (n := 6 * r + h (40 + 2 * p)) (by rw [q_lit, q_mul, q_add]) (by omega) (by decide), e.f _ _ (by omega) (by omega), fv_lt (show D r (h (40 + 2 * p)) < 1000 by omega), s_lawNow hb e hv, q_bI, hl, show 40 + 2 * p + 1 = 41 + 2 * p by omega, show nI (h (41 + 2 * p)) - 5 * nI (D r (h (40 + 2 * p))) = wor h D r p from rfl] at hX
      rw [if_pos c]
      refine hX.trans ?_
      clear hX
      by_cases k2 : l = 2
      · subst k2
        rw [if_pos (by decide), if_pos (Or.inl rfl), fv_lt (by omega)]
      · rw [if_neg (by rw [q_lit, q_eqN (by omega) (by decide)]; exact k2)]
        have hrest : (if fv best = -1000000 then mx_H 114 15 [some (mx_R 0 39), some (mx_R kk 45), some (mx_I (nI v)), some (mx_I (nI p)), some (mx_I (wor h D r p)), some (mx_I fl), some (mx_I (nI (p + 1))), none, none, none] b else if wor h D r p ≤ most then mx_H 114 15 [some (mx_R 0 39), some (mx_R kk 45), some (mx_I (nI v)), some (mx_I (fv best)), some (mx_I most), some (mx_I fl), some (mx_I (nI (p + 1))), none, none, none] b else mx_H 114 15 [some (mx_R 0 39), some (mx_R kk 45), some (mx_I (nI v)), some (mx_I (nI p)), some (mx_I (wor h D r p)), some (mx_I fl), some (mx_I (nI (p + 1))), none, none, none] b) = some (some (mx_I (fv (if best = 1000 ∨ ¬wor h D r p ≤ most then aimR h D l r dn d (p + 1) p (wor h D r p) else aimR h D l r dn d (p + 1) best most))), b) := by
          have a1 := ih (p + 1) p (wor h D r p) (by omega) (Or.inr (by omega))
          have a2 := ih (p + 1) best most (by omega) (by omega)
          rw [fv_lt (show p < 1000 by omega)] at a1
          by_cases q1 : best = 1000
          · rw [if_pos ((fv_no (by omega)).mpr q1), if_pos (Or.inl q1)]; exact a1
          · rw [if_neg (fun q => q1 ((fv_no (by omega)).mp q))]
            by_cases q2 : wor h D r p ≤ most
            · rw [if_pos q2, if_neg (by rintro (q | q); exact q1 q; exact q q2)]; exact a2
            · rw [if_neg q2, if_pos (Or.inr q2)]; exact a1
        by_cases k0 : l = 0
        · subst k0
          rw [if_pos rfl] at hfl
          rw [if_neg (show ¬ fl = 0 by rw [hfl]; decide)]
          by_cases p0 : p = 0
          · subst p0
            rw [if_pos (by decide), if_pos (Or.inr ⟨rfl, rfl⟩)]; rfl
          · rw [if_neg (by rw [q_lit, q_eqN (by omega) (by decide)]; exact p0), if_neg (show ¬ (0 = 2 ∨ 0 = 0 ∧ p = 0) by omega)]
            exact hrest
        · rw [if_neg k0] at hfl
          rw [if_pos hfl, if_neg (show ¬ (l = 2 ∨ l = 0 ∧ p = 0) by omega)]
          exact hrest
    · rw [if_neg c, if_pos rfl] at hX
      rw [if_neg c]
      exact hX.trans (ih (p + 1) best most (by omega) (by omega))
theorem s_maim {h mt lw : Nat → Nat} (hb : HB h) {D : Nat → Nat → Nat} (hD : DS h D) {kk : Nat} {b : mx_S} (e : ME h mt lw D b) {v r : Nat} {dn : Int32} (hv : v < h 6) (hr : r < h 2) (h1 : b kk 45 (14 * v) = nI r) (h2 : b kk 45 (14 * v + 3) = dn) : mx_sem 114 [mx_R 0 39, mx_R kk 45, mx_I (nI v)] b = some (some (mx_I (fv (aimF h D (lw (gO h v)) r dn))), b) := by
  have l2 := (e.l _ (gO_ok hb hv).1).1
  rw [e_M_aim, s_lawNow hb e hv, q_bI]
  by_cases k0 : lw (gO h v) = 0
  · have key := s_aim15 hb hD e hv hr h1 h2 (fl := 1) (by rw [if_pos k0]) (h 4) 0 1000 0 (by omega) (Or.inl rfl)
    rw [if_pos (by rw [k0]; decide)]
    exact key
  · have key := s_aim15 hb hD e hv hr h1 h2 (fl := 0) (by rw [if_neg k0]) (h 4) 0 1000 0 (by omega) (Or.inl rfl)
    rw [if_neg (by rw [q_lit, q_eqN (by omega) (by decide)]; exact k0)]
    exact key
/-! rooms -/
theorem s_inRoom5 {h : Nat → Nat} (hb : HB h) {kk : Nat} {b : mx_S} (hm : MH 43 h b) {c : Cr} (hc : MC kk c b) {x : Int32} : ∀ (d v : Nat), v + d = h 6 → mx_H 135 5 [some (mx_R 0 39), some (mx_R kk 45), some (mx_I x), some (mx_I (nI (cnt c x v))), some (mx_I (nI v))] b = some (some (mx_I (nI (cnt c x (h 6)))), b) := by
  have h6 := hb.r6
  intro d
  induction d with
  | zero =>
    intro v hd
    have e : v = h 6 := by omega
    subst e
    rw [e_M_inRoom_5, q_gl (by decide) (by decide), hm 6 (by decide), if_pos ((q_leN (by omega) (by omega)).mpr (Nat.le_refl _))]
  | succ d ih =>
    intro v hd
    have hih := ih (v + 1) (by omega)
    rw [e_M_inRoom_5, q_gl (by decide) (by decide), hm 6 (by decide), if_neg (by rw [q_leN (by omega) (by omega)]; omega), g14 (i := 0) (show v < 30 by omega) (by decide) (by rfl), show 14 * v + 0 = 14 * v from rfl, hc _ (by omega)]
    rw [show cnt c x (v + 1) = cnt c x v + (if c (14 * v) = x then 1 else 0) from rfl] at hih
    by_cases q : c (14 * v) = x
    · rw [if_pos q] at hih ⊢
      rw [nI_1, nI_1]; exact hih
    · rw [if_neg q] at hih ⊢
      rw [show nI (cnt c x v) + 0 = nI (cnt c x v) from Int32.add_zero _, nI_1]; exact hih
theorem s_inRoom {h : Nat → Nat} (hb : HB h) {kk : Nat} {b : mx_S} (hm : MH 43 h b) {c : Cr} (hc : MC kk c b) (x : Int32) : mx_sem 135 [mx_R 0 39, mx_R kk 45, mx_I x] b = some (some (mx_I (nI (cnt c x (h 6)))), b) := by
  rw [e_M_inRoom]
  exact s_inRoom5 hb hm hc (h 6) 0 (by omega)
theorem s_holdsOne {h : Nat → Nat} (hb : HB h) {kk : Nat} {b : mx_S} (hm : MH 43 h b) {c : Cr} (hc : MC kk c b) {r : Nat} (hr : r < h 2) : mx_sem 136 [mx_R 0 39, mx_R kk 45, mx_I (nI r)] b = some (some (mx_I (if cnt c (nI r) (h 6) < h (7 + r) then 1 else 0)), b) := by
  have h6 := hb.r6
  have h2 := hb.r2
  have h7 := (hb.rm r hr).2
  have l := cnt_le c (nI r) (h 6)
  rw [e_M_holdsOne, s_inRoom hb hm hc, q_bI, q_gx (n := 7 + r) (by rw [q_lit, q_add]) (by omega) (by decide), hm _ (by omega)]
  by_cases q : cnt c (nI r) (h 6) < h (7 + r)
  · rw [if_pos q, if_neg (by rw [q_leN (by omega) (by omega)]; omega)]
  · rw [if_neg q, if_pos ((q_leN (by omega) (by omega)).mpr (by omega))]
theorem s_waits {kk : Nat} {b : mx_S} {c : Cr} (hc : MC kk c b) {v aim : Nat} (hv : v < 30) (ha : aim = 1000 ∨ aim < 8) : ∃ b', mx_sem 137 [mx_R 0 39, mx_R kk 45, mx_I (nI v), mx_I (vNo aim)] b = some (none, b') ∧ MC kk (waitC c v aim) b' ∧ kq (S45 kk) b b' := by
  have hX := e_M_waits kk (nI v) (vNo aim) b
  have c1 := hc.up (14 * v + 5) 3
  have k1 : kq (S45 kk) b (mx_up b kk 45 (14 * v + 5) 3) := kq_up kq_rf ⟨rfl, rfl⟩
  rw [g14 (i := 5) hv (by decide) (by rfl), q_w, g14 (i := 1) hv (by decide) (by rfl), c1 _ (by omega)] at hX
  have o3 : fup c (14 * v + 5) 3 (14 * v + 3) = c (14 * v + 3) := fup_o (by omega)
  have o1 : fup c (14 * v + 5) 3 (14 * v + 1) = c (14 * v + 1) := fup_o (by omega)
  unfold waitC
  by_cases q : fup c (14 * v + 5) 3 (14 * v + 1) ≤ 0
  · rw [if_pos q] at hX ⊢
    rcases ha with ha | ha
    · subst ha
      rw [if_neg (by decide), g14 (i := 0) hv (by decide) (by rfl), q_w] at hX
      rw [if_pos rfl]
      exact ⟨_, hX, c1.up (14 * v) (-2), kq_up k1 ⟨rfl, rfl⟩⟩
    · have ew : vNo aim = nI aim := if_neg (by omega)
      rw [ew, if_pos (q_le0 (by omega)), g14 (i := 3) hv (by decide) (by rfl), g14 (i := 3) hv (by decide) (by rfl), q_w, c1 _ (by omega), o3] at hX
      have c2 := c1.up (14 * v + 3) (c (14 * v + 3) ||| bitI aim)
      have k2 : kq (S45 kk) b (mx_up (mx_up b kk 45 (14 * v + 5) 3) kk 45 (14 * v + 3) (c (14 * v + 3) ||| bitI aim)) := kq_up k1 ⟨rfl, rfl⟩
      rw [show (1 : Int32) <<< (nI aim &&& 31) = bitI aim from rfl, g14 (i := 4) hv (by decide) (by rfl), g14 (i := 4) hv (by decide) (by rfl), q_w, c2 _ (by omega), fup_o (show 14 * v + 4 ≠ 14 * v + 3 by omega), fup_o (show 14 * v + 4 ≠ 14 * v + 5 by omega)] at hX
      rw [if_neg (show ¬ aim = 1000 by omega), ew]
      exact ⟨_, hX, c2.up (14 * v + 4) (c (14 * v + 4) ||| bitI aim), kq_up k2 ⟨rfl, rfl⟩⟩
  · rw [if_neg q] at hX ⊢
    rw [g14 (i := 1) hv (by decide) (by rfl), g14 (i := 1) hv (by decide) (by rfl), q_w, c1 _ (by omega), o1] at hX
    exact ⟨_, hX, c1.up (14 * v + 1) (c (14 * v + 1) - 1), kq_up k1 ⟨rfl, rfl⟩⟩
theorem s_enters {h : Nat → Nat} (hb : HB h) {kk : Nat} {b : mx_S} (hm : MH 43 h b) {c : Cr} (hc : MC kk c b) {v r aim : Nat} (hv : v < 30) (hr : r < h 2) (ha : aim = 1000 ∨ aim < 8) : ∃ b', mx_sem 138 [mx_R 0 39, mx_R kk 45, mx_I (nI v), mx_I (nI r), mx_I (vNo aim)] b = some (none, b') ∧ MC kk (entC h c v r aim) b' ∧ kq (S45 kk) b b' := by
  have hX := e_M_enters kk (nI v) (nI r) (vNo aim) b
  rw [s_holdsOne hb hm hc hr, q_bI] at hX
  unfold entC
  by_cases q : cnt c (nI r) (h 6) < h (7 + r)
  · rw [if_pos q, if_neg (by decide), g14 (i := 0) hv (by decide) (by rfl), q_w] at hX
    rw [if_pos q]
    exact ⟨_, hX, hc.up (14 * v) (nI r), kq_up kq_rf ⟨rfl, rfl⟩⟩
  · obtain ⟨b', e1, e2, e3⟩ := s_waits hc hv ha
    rw [if_neg q, if_pos rfl, e1, q_bV] at hX
    rw [if_neg q]
    exact ⟨b', hX, e2, e3⟩
