/-! ===== M's minute: looking, going ===== -/
theorem q_d10 {α : Type} {fl f : α} : mx_d fl (10 : Int32) f = f := q_d (n := 10) (by decide) (by decide)
theorem q_div10 {x : Nat} (h : x < 1000) : nI x / 10 = nI (x / 10) := pk_div (d := 10) (by omega) (by decide) (by decide)
theorem s_looks82 {h mt lw : Nat → Nat} (hb : HB h) {D : Nat → Nat → Nat} {kk : Nat} {b : mx_S} (e : ME h mt lw D b) {c : Cr} (hc : MC kk c b) {v p : Nat} (hv : v < 30) (hp : p < h 4) (x7 : Int32) : ∃ b', mx_H 139 82 [some (mx_R 0 39), some (mx_R kk 45), none, some (mx_I (nI p)), some (mx_I ((14 : Int32) * nI v)), some (mx_I (nI (h (41 + 2 * p)))), none, some (mx_I x7), none] b = some (none, b') ∧ MC kk (if nI (mt p) ≤ x7 ∨ (¬ nI (h 1) ≤ 0 ∧ ¬ x7 < nI (h 1)) then fup c (14 * v + 3) (c (14 * v + 3) ||| bitI p) else c) b' ∧ kq (S45 kk) b b' := by
  have pc := (hb.pc p hp).2.2
  have hY : mx_H 139 82 [some (mx_R 0 39), some (mx_R kk 45), none, some (mx_I (nI p)), some (mx_I ((14 : Int32) * nI v)), some (mx_I (nI (h (41 + 2 * p)))), none, some (mx_I x7), none] b = if x7 < nI (mt p) then (mx_g none 1 80 fun j9 => if (b 0 43 j9) ≤ 0 then (some (none, b)) else (mx_g none 1 80 fun j10 => if x7 < (b 0 43 j10) then (some (none, b)) else (mx_g none ((14 : Int32) * nI v + 3) 421 fun j11 => mx_g none ((14 : Int32) * nI v + 3) 421 fun j12 => mx_w (mx_up b kk 45 j12 ((b kk 45 j11) ||| (((1 : Int32)) <<< (nI p &&& 31)))) fun s13 => some (none, s13)))) else (mx_g none ((14 : Int32) * nI v + 3) 421 fun j14 => mx_g none ((14 : Int32) * nI v + 3) 421 fun j15 => mx_w (mx_up b kk 45 j15 ((b kk 45 j14) ||| (((1 : Int32)) <<< (nI p &&& 31)))) fun s16 => some (none, s16)) := by
    rw [e_M_looks_82, q_d10, q_div10 (by omega)]
    rcases e.t p hp with ⟨t1, t2⟩ | ⟨t1, t2⟩
    · rw [if_pos t1.symm, show ((2 : Int32) + nI (h (41 + 2 * p) / 10)) - 1 = nI (mt p) by
        rw [show (2 : Int32) = nI 2 from rfl, show (1 : Int32) = nI 1 from rfl, q_add, q_sub (by omega), t2]
        congr 1
        omega]
    · rw [if_neg (fun q => t1 q.symm), show ((2 : Int32) + nI (h (41 + 2 * p) / 10)) - 0 = nI (mt p) by
        rw [show (2 : Int32) = nI 2 from rfl, show (0 : Int32) = nI 0 from rfl, q_add, q_sub (by omega), t2]
        congr 1]
  have fin : ∀ (z : Option mx_Rt), z = (mx_g none ((14 : Int32) * nI v + 3) 421 fun j14 => mx_g none ((14 : Int32) * nI v + 3) 421 fun j15 => mx_w (mx_up b kk 45 j15 ((b kk 45 j14) ||| (((1 : Int32)) <<< (nI p &&& 31)))) fun s16 => some (none, s16)) → z = some (none, mx_up b kk 45 (14 * v + 3) (c (14 * v + 3) ||| bitI p)) := by
    intro z hz
    rw [hz, g14 (i := 3) hv (by decide) (by rfl), g14 (i := 3) hv (by decide) (by rfl), q_w, hc _ (by omega)]
    rfl
  by_cases q : x7 < nI (mt p)
  · rw [if_pos q, q_gl (by decide) (by decide), e.m 1 (by decide)] at hY
    have q' : ¬ nI (mt p) ≤ x7 := Int32.not_le.mpr q
    by_cases q2 : nI (h 1) ≤ 0
    · rw [if_pos q2] at hY
      rw [if_neg (by rintro (w | w); exact q' w; exact w.1 q2)]
      exact ⟨b, hY, hc, kq_rf⟩
    · rw [if_neg q2, q_gl (by decide) (by decide), e.m 1 (by decide)] at hY
      by_cases q3 : x7 < nI (h 1)
      · rw [if_pos q3] at hY
        rw [if_neg (by rintro (w | w); exact q' w; exact w.2 q3)]
        exact ⟨b, hY, hc, kq_rf⟩
      · rw [if_neg q3] at hY
        rw [if_pos (Or.inr ⟨q2, q3⟩)]
        exact ⟨_, fin _ hY, hc.up _ _, kq_up kq_rf ⟨rfl, rfl⟩⟩
  · rw [if_neg q] at hY
    rw [if_pos (Or.inl (Int32.not_lt.mp q))]
    exact ⟨_, fin _ hY, hc.up _ _, kq_up kq_rf ⟨rfl, rfl⟩⟩
theorem s_looks {h mt lw : Nat → Nat} (hb : HB h) {D : Nat → Nat → Nat} {kk : Nat} {b : mx_S} (e : ME h mt lw D b) {c hd : Cr} (hc : MC kk c b) (hh : ∀ q, q < 8 → b 0 48 q = hd q) {v p : Nat} (hv : v < 30) (hp : p < h 4) : ∃ b', mx_sem 139 [mx_R 0 39, mx_R kk 45, mx_I (nI v), mx_I (nI p)] b = some (none, b') ∧ MC kk (lookC h mt c hd v p) b' ∧ (∀ q, q < 8 → b' 0 48 q = fup hd p (hd p + 1) q) ∧ kq (S458 kk) b b' := by
  have h4 := hb.r4
  have pc := (hb.pc p hp).2.2
  have c3 : MC kk c (mx_up b 0 48 p (hd p + 1)) := hc.k (fun j => by rw [q_uo (by decide)])
  have k3 : kq (S458 kk) b (mx_up b 0 48 p (hd p + 1)) := kq_up kq_rf (Or.inr rfl)
  have hh3 : ∀ q, q < 8 → mx_up b 0 48 p (hd p + 1) 0 48 q = fup hd p (hd p + 1) q := fun q hq => by
    by_cases w : q = p
    · subst w; rw [q_us, fup_s]
    · rw [q_uj w, fup_o w]; exact hh q hq
  have fin : ∀ (y z : Int32), ∃ b', mx_H 139 82 [some (mx_R 0 39), some (mx_R kk 45), none, some (mx_I (nI p)), some (mx_I ((14 : Int32) * nI v)), some (mx_I (nI (h (41 + 2 * p)))), none, some (mx_I (c (14 * v + 6 + p) + 1)), none] (mx_up (mx_up (mx_up (mx_up b 0 48 p (hd p + 1)) kk 45 (14 * v + 5) y) kk 45 (14 * v + 2) z) kk 45 (14 * v + 6 + p) (c (14 * v + 6 + p) + 1)) = some (none, b') ∧ MC kk (if nI (mt p) ≤ c (14 * v + 6 + p) + 1 ∨ (¬ nI (h 1) ≤ 0 ∧ ¬ c (14 * v + 6 + p) + 1 < nI (h 1)) then fup (fup (fup (fup c (14 * v + 5) y) (14 * v + 2) z) (14 * v + 6 + p) (c (14 * v + 6 + p) + 1)) (14 * v + 3) (c (14 * v + 3) ||| bitI p) else fup (fup (fup c (14 * v + 5) y) (14 * v + 2) z) (14 * v + 6 + p) (c (14 * v + 6 + p) + 1)) b' ∧ (∀ q, q < 8 → b' 0 48 q = fup hd p (hd p + 1) q) ∧ kq (S458 kk) b b' := by
    intro y z
    have d3 := ((c3.up (14 * v + 5) y).up (14 * v + 2) z).up (14 * v + 6 + p) (c (14 * v + 6 + p) + 1)
    have k4 : kq (S45 kk) (mx_up b 0 48 p (hd p + 1)) (mx_up (mx_up (mx_up (mx_up b 0 48 p (hd p + 1)) kk 45 (14 * v + 5) y) kk 45 (14 * v + 2) z) kk 45 (14 * v + 6 + p) (c (14 * v + 6 + p) + 1)) := kq_up (kq_up (kq_up kq_rf ⟨rfl, rfl⟩) ⟨rfl, rfl⟩) ⟨rfl, rfl⟩
    obtain ⟨b', f1, f2, f3⟩ := s_looks82 hb (e.q (kq_tr k3 (S45_8 k4))) d3 hv hp (c (14 * v + 6 + p) + 1)
    rw [fup_o (show 14 * v + 3 ≠ 14 * v + 6 + p by omega), fup_o (show 14 * v + 3 ≠ 14 * v + 2 by omega), fup_o (show 14 * v + 3 ≠ 14 * v + 5 by omega)] at f2
    refine ⟨b', f1, f2, fun q hq => ?_, kq_tr k3 (S45_8 (kq_tr k4 f3))⟩
    rw [kq_tr k4 f3 0 48 q (fun w => by have := w.2; omega)]
    exact hh3 q hq
  have hX := e_M_looks kk (nI v) (nI p) b
  rw [q_gx (n := 40 + 2 * p + 1) (by rw [q_lit, q_lit, q_lit, q_mul, q_add, q_add]) (by omega) (by decide), q_g (show p < 8 by omega) (by decide), q_gl (by decide) (by decide), e.m 0 (by decide), show 40 + 2 * p + 1 = 41 + 2 * p by omega, e.m (41 + 2 * p) (by omega), hh p (by omega)] at hX
  have d1 : ∀ y, mx_up (mx_up b 0 48 p (hd p + 1)) kk 45 (14 * v + 5) y kk 45 (14 * v + 2) = c (14 * v + 2) := fun y => by
    rw [c3.up _ _ _ (by omega), fup_o (by omega)]
  have d2 : ∀ y z, mx_up (mx_up (mx_up b 0 48 p (hd p + 1)) kk 45 (14 * v + 5) y) kk 45 (14 * v + 2) z kk 45 (14 * v + 6 + p) = c (14 * v + 6 + p) := fun y z => by
    rw [(c3.up _ _).up _ _ _ (by omega), fup_o (by omega), fup_o (by omega)]
  have gp : ∀ (f : Nat → Option mx_Rt), mx_g none ((14 : Int32) * nI v + 6 + nI p) 421 f = f (14 * v + 6 + p) := fun f => q_gx (by rw [q_lit, q_lit, q_mul, q_add, q_add]) (by omega) (by decide)
  unfold lookC lookC1
  by_cases q : nI (h 0) ≤ hd p
  · rw [if_pos q, e_M_looks_29, q_g (show p < 8 by omega) (by decide), q_g (show p < 8 by omega) (by decide), q_w, hh p (by omega), if_pos rfl, g14 (i := 5) hv (by decide) (by rfl), q_w, g14 (i := 2) hv (by decide) (by rfl), if_pos rfl, g14 (i := 2) hv (by decide) (by rfl), q_w, d1, gp, gp, q_w, d2, gp, q_us] at hX
    obtain ⟨b', f1, f2, f3, f4⟩ := fin 2 (c (14 * v + 2) + (4 : Int32) * nI (h (41 + 2 * p)))
    refine ⟨b', hX.trans f1, ?_, f3, f4⟩
    rw [if_pos q]
    exact f2
  · rw [if_neg q, e_M_looks_29, q_g (show p < 8 by omega) (by decide), q_g (show p < 8 by omega) (by decide), q_w, hh p (by omega), if_neg (by decide), g14 (i := 5) hv (by decide) (by rfl), q_w, g14 (i := 2) hv (by decide) (by rfl), if_neg (by decide), g14 (i := 2) hv (by decide) (by rfl), q_w, d1, gp, gp, q_w, d2, gp, q_us] at hX
    obtain ⟨b', f1, f2, f3, f4⟩ := fin 1 (c (14 * v + 2) + (10 : Int32) * nI (h (41 + 2 * p)))
    refine ⟨b', hX.trans f1, ?_, f3, f4⟩
    rw [if_neg q]
    exact f2
/-- the next room is one -/
theorem nxr_lt {h : Nat → Nat} (hb : HB h) {D : Nat → Nat → Nat} (hD : DS h D) {r t : Nat} (hr : r < h 2) (ht : t < h 2) (hn : D r t ≠ 1000) (he : r ≠ t) : nxr D (h 2) r t < h 2 := by
  have l := (hD r t hr ht).1
  obtain ⟨x, hx, h1, h2⟩ := DS_step hb hD hr ht (by omega) he
  exact nb_some D r t h1 h2 (h 2) hb.r2 hx
theorem aimF_p {h : Nat → Nat} {D : Nat → Nat → Nat} {l r : Nat} {dn : Int32} (ha : aimF h D l r dn ≠ 1000) : aimF h D l r dn < h 4 ∧ D r (h (40 + 2 * aimF h D l r dn)) ≠ 1000 := by
  rcases aimF_ok h D l r dn with q | ⟨q1, q2⟩
  · exact absurd q ha
  · unfold opn at q2
    rw [Bool.and_eq_true, decide_eq_true_eq, decide_eq_true_eq] at q2
    exact ⟨q1, q2.2⟩
theorem nI_m1 {n : Nat} (h : n < 2147483648) : nI n ≠ -1 := fun q => by
  rw [q_eq, q_toI h, show (-1 : Int32).toInt = -1 from rfl] at q
  omega
theorem nI_m2 {n : Nat} (h : n < 2147483648) : nI n ≠ -2 := fun q => by
  rw [q_eq, q_toI h, show (-2 : Int32).toInt = -2 from rfl] at q
  omega
theorem s_goes {h mt lw : Nat → Nat} (hb : HB h) (h1 : 1 ≤ h 2) {D : Nat → Nat → Nat} (hD : DS h D) {kk : Nat} {b : mx_S} (e : ME h mt lw D b) {c hd : Cr} (cb : CB h c) (hc : MC kk c b) (hh : ∀ q, q < 8 → b 0 48 q = hd q) {v : Nat} (hv : v < h 6) : ∃ b', mx_sem 142 [mx_R 0 39, mx_R kk 45, mx_I (nI v)] b = some (none, b') ∧ MC kk (goC h mt lw D c hd v).1 b' ∧ (∀ q, q < 8 → b' 0 48 q = (goC h mt lw D c hd v).2 q) ∧ kq (S458 kk) b b' := by
  have h6 := hb.r6
  have h2 := hb.r2
  have h4 := hb.r4
  have hX := e_M_goes kk (nI v) b
  have c1 := hc.up (14 * v + 5) 0
  have k1 : kq (S45 kk) b (mx_up b kk 45 (14 * v + 5) 0) := kq_up kq_rf ⟨rfl, rfl⟩
  have e1 : ME h mt lw D (mx_up b kk 45 (14 * v + 5) 0) := e.q (S45_8 k1)
  have hh1 : ∀ {b'}, kq (S45 kk) (mx_up b kk 45 (14 * v + 5) 0) b' → ∀ q, q < 8 → b' 0 48 q = hd q := fun {b'} k q hq => by
    rw [kq_tr k1 k 0 48 q (fun w => by have := w.2; omega)]; exact hh q hq
  have o0 : fup c (14 * v + 5) 0 (14 * v) = c (14 * v) := fup_o (by omega)
  have o3 : fup c (14 * v + 5) 0 (14 * v + 3) = c (14 * v + 3) := fup_o (by omega)
  have o4 : fup c (14 * v + 5) 0 420 = c 420 := fup_o (by omega)
  have r0 : mx_up b kk 45 (14 * v + 5) 0 kk 45 (14 * v) = c (14 * v) := by rw [c1 _ (by omega), o0]
  rw [g14 (i := 5) (show v < 30 by omega) (by decide) (by rfl), q_w, g14 (i := 0) (show v < 30 by omega) (by decide) (by rfl), show 14 * v + 0 = 14 * v from rfl, r0] at hX
  unfold goC
  by_cases q1 : c (14 * v) = -1
  · rw [if_pos q1, s_told hb e1.m hv (w := 1) (by decide) (by rfl), q_bI, g420, c1 _ (by omega), o4, show 56 + 4 * gO h v + 1 = 57 + 4 * gO h v by omega] at hX
    rw [if_pos q1]
    by_cases q2 : c 420 < nI (h (57 + 4 * gO h v))
    · rw [if_pos q2] at hX ⊢
      exact ⟨_, hX, c1, hh1 kq_rf, S45_8 k1⟩
    · obtain ⟨b', f1, f2, f3⟩ := s_enters hb e1.m c1 (show v < 30 by omega) (show 0 < h 2 by omega) (aim := 1000) (Or.inl rfl)
      rw [if_neg q2, show mx_I 0 = mx_I (nI 0) from rfl, show mx_I (-1) = mx_I (vNo 1000) from rfl, f1, q_bV] at hX
      rw [if_neg q2]
      exact ⟨b', hX, f2, hh1 f3, S45_8 (kq_tr k1 f3)⟩
  · rw [if_neg q1, g14 (i := 0) (show v < 30 by omega) (by decide) (by rfl), show 14 * v + 0 = 14 * v from rfl, r0] at hX
    rw [if_neg q1]
    by_cases q2 : c (14 * v) = -2
    · rw [if_pos q2, g14 (i := 0) (show v < 30 by omega) (by decide) (by rfl), show 14 * v + 0 = 14 * v from rfl, q_w, q_ui (r0.trans q2)] at hX
      rw [if_pos q2]
      exact ⟨_, hX, c1, hh1 kq_rf, S45_8 k1⟩
    · obtain ⟨r, hr, hrc⟩ : ∃ r, r < h 2 ∧ c (14 * v) = nI r := by
        rcases cb.pl v hv with q | q | q
        · exact absurd q q1
        · exact absurd q q2
        · exact q
      have er : rOf (c (14 * v)) = r := by rw [hrc]; exact rOf_n (by omega)
      rw [if_neg q2, s_maim hb hD e1 hv hr (r0.trans hrc) ((c1 _ (by omega)).trans o3), q_bI] at hX
      rw [if_neg q2, er]
      have ok := aimF_ok h D (lw (gO h v)) r (c (14 * v + 3))
      generalize hA : aimF h D (lw (gO h v)) r (c (14 * v + 3)) = A at hX ok ⊢
      by_cases a0 : A = 1000
      · rw [if_pos ((fv_no (by omega)).mpr a0), g14 (i := 0) (show v < 30 by omega) (by decide) (by rfl), show 14 * v + 0 = 14 * v from rfl, q_w] at hX
        rw [if_pos a0]
        exact ⟨_, hX, c1.up _ _, hh1 (kq_up kq_rf ⟨rfl, rfl⟩), S45_8 (kq_up k1 ⟨rfl, rfl⟩)⟩
      · obtain ⟨a1, a2⟩ := hA ▸ aimF_p (hA ▸ a0)
        have pc := (hb.pc A a1).1
        rw [if_neg (fun q => a0 ((fv_no (by omega)).mp q)), fv_lt (show A < 1000 by omega), q_gx (n := 40 + 2 * A) (by rw [q_lit, q_lit, q_mul, q_add]) (by omega) (by decide), e1.m _ (by omega), g14 (i := 0) (show v < 30 by omega) (by decide) (by rfl), show 14 * v + 0 = 14 * v from rfl, r0, hrc] at hX
        rw [if_neg a0]
        by_cases t0 : h (40 + 2 * A) = r
        · obtain ⟨b', f1, f2, f3, f4⟩ := s_looks hb e1 c1 (hh1 kq_rf) (show v < 30 by omega) a1
          rw [if_pos (by rw [t0]), f1, q_bV] at hX
          rw [if_pos t0]
          exact ⟨b', hX, f2, f3, kq_tr (S45_8 k1) f4⟩
        · have nx := nxr_lt hb hD hr pc a2 (fun q => t0 q.symm)
          obtain ⟨b', f1, f2, f3⟩ := s_enters hb e1.m c1 (show v < 30 by omega) nx (aim := A) (Or.inr (by omega))
          rw [if_neg (by rw [q_eqN (by omega) (by omega)]; exact t0), g14 (i := 0) (show v < 30 by omega) (by decide) (by rfl), show 14 * v + 0 = 14 * v from rfl, r0, hrc, s_mnext hb hD e1.m e1.f hr pc, q_bI, fv_lt (show nxr D (h 2) r (h (40 + 2 * A)) < 1000 by omega), show mx_I (nI A) = mx_I (vNo A) by rw [vNo, if_neg a0], f1, q_bV] at hX
          rw [if_neg t0]
          exact ⟨b', hX, f2, hh1 f3, S45_8 (kq_tr k1 f3)⟩
/-! all that holds goes on holding -/
theorem waitC_pl (c : Cr) (v aim : Nat) : waitC c v aim (14 * v) = c (14 * v) ∨ waitC c v aim (14 * v) = -2 := by
  unfold waitC
  split
  · split
    · exact Or.inr fup_s
    · left
      rw [fup_o (by omega), fup_o (by omega), fup_o (by omega)]
  · left
    rw [fup_o (by omega), fup_o (by omega)]
theorem waitC_ms (c : Cr) (v aim : Nat) : waitC c v aim (14 * v + 4) = c (14 * v + 4) ∨ (aim ≠ 1000 ∧ waitC c v aim (14 * v + 4) = c (14 * v + 4) ||| bitI aim) := by
  unfold waitC
  split
  · split
    · left
      rw [fup_o (by omega), fup_o (by omega)]
    · rename_i q
      exact Or.inr ⟨q, fup_s⟩
  · left
    rw [fup_o (by omega), fup_o (by omega)]
theorem lookC1_pl (h : Nat → Nat) (c hd : Cr) (v p : Nat) : lookC1 h c hd v p (14 * v) = c (14 * v) ∧ lookC1 h c hd v p (14 * v + 4) = c (14 * v + 4) := by
  unfold lookC1
  split
  · exact ⟨by rw [fup_o (by omega), fup_o (by omega), fup_o (by omega)], by rw [fup_o (by omega), fup_o (by omega), fup_o (by omega)]⟩
  · exact ⟨by rw [fup_o (by omega), fup_o (by omega), fup_o (by omega)], by rw [fup_o (by omega), fup_o (by omega), fup_o (by omega)]⟩
theorem lookC_pl (h mt : Nat → Nat) (c hd : Cr) (v p : Nat) : lookC h mt c hd v p (14 * v) = c (14 * v) ∧ lookC h mt c hd v p (14 * v + 4) = c (14 * v + 4) := by
  unfold lookC
  split
  · exact ⟨by rw [fup_o (by omega)]; exact (lookC1_pl h c hd v p).1, by rw [fup_o (by omega)]; exact (lookC1_pl h c hd v p).2⟩
  · exact lookC1_pl h c hd v p
theorem entC_pl (h : Nat → Nat) (c : Cr) (v r aim : Nat) : entC h c v r aim (14 * v) = nI r ∨ entC h c v r aim (14 * v) = c (14 * v) ∨ entC h c v r aim (14 * v) = -2 := by
  unfold entC
  split
  · exact Or.inl fup_s
  · exact Or.inr (waitC_pl c v aim)
theorem entC_ms (h : Nat → Nat) (c : Cr) (v r aim : Nat) : entC h c v r aim (14 * v + 4) = c (14 * v + 4) ∨ (aim ≠ 1000 ∧ entC h c v r aim (14 * v + 4) = c (14 * v + 4) ||| bitI aim) := by
  unfold entC
  split
  · exact Or.inl (fup_o (by omega))
  · exact waitC_ms c v aim
theorem CB.go {h mt lw : Nat → Nat} (hb : HB h) (h1 : 1 ≤ h 2) {D : Nat → Nat → Nat} (hD : DS h D) {c : Cr} (cb : CB h c) (hd : Cr) {v : Nat} (hv : v < h 6) : CB h (goC h mt lw D c hd v).1 := by
  have h4 := hb.r4
  have h2 := hb.r2
  have key : ((goC h mt lw D c hd v).1 (14 * v) = -1 ∨ (goC h mt lw D c hd v).1 (14 * v) = -2 ∨ ∃ r, r < h 2 ∧ (goC h mt lw D c hd v).1 (14 * v) = nI r) ∧ ∃ m, m < 256 ∧ (goC h mt lw D c hd v).1 (14 * v + 4) = nI m := by
    obtain ⟨m, hm, em⟩ := cb.ms v hv
    have pl := cb.pl v hv
    have p0 : fup c (14 * v + 5) 0 (14 * v) = c (14 * v) := fup_o (by omega)
    have p4 : fup c (14 * v + 5) 0 (14 * v + 4) = c (14 * v + 4) := fup_o (by omega)
    have hent : ∀ r aim, r < h 2 → (aim = 1000 ∨ aim < 8) → (entC h (fup c (14 * v + 5) 0) v r aim (14 * v) = -1 ∨ entC h (fup c (14 * v + 5) 0) v r aim (14 * v) = -2 ∨ ∃ r', r' < h 2 ∧ entC h (fup c (14 * v + 5) 0) v r aim (14 * v) = nI r') ∧ ∃ m, m < 256 ∧ entC h (fup c (14 * v + 5) 0) v r aim (14 * v + 4) = nI m := by
      intro r aim hr ha
      refine ⟨?_, ?_⟩
      · rcases entC_pl h (fup c (14 * v + 5) 0) v r aim with q | q | q
        · exact Or.inr (Or.inr ⟨r, hr, q⟩)
        · rw [q, p0]; exact pl
        · exact Or.inr (Or.inl q)
      · rcases entC_ms h (fup c (14 * v + 5) 0) v r aim with q | ⟨q1, q2⟩
        · exact ⟨m, hm, by rw [q, p4, em]⟩
        · obtain ⟨m', hm', e'⟩ := or_bits m aim hm (by omega)
          exact ⟨m', hm', by rw [q2, p4, em, e']⟩
    unfold goC
    split
    · split
      · exact ⟨by dsimp only; rw [p0]; exact pl, m, hm, by dsimp only; rw [p4, em]⟩
      · exact hent 0 1000 (by omega) (Or.inl rfl)
    · rename_i q1
      split
      · exact ⟨by dsimp only; rw [p0]; exact pl, m, hm, by dsimp only; rw [p4, em]⟩
      · rename_i q2
        obtain ⟨r, hr, hrc⟩ : ∃ r, r < h 2 ∧ c (14 * v) = nI r := by
          rcases pl with q | q | q
          · exact absurd q q1
          · exact absurd q q2
          · exact q
        have er : rOf (c (14 * v)) = r := by rw [hrc]; exact rOf_n (by omega)
        rw [er]
        split
        · refine ⟨Or.inr (Or.inl fup_s), m, hm, ?_⟩
          dsimp only
          rw [fup_o (by omega), p4, em]
        · rename_i a0
          obtain ⟨a1, a2⟩ := aimF_p a0
          have pc := (hb.pc _ a1).1
          split
          · have l := lookC_pl h mt (fup c (14 * v + 5) 0) hd v (aimF h D (lw (gO h v)) r (c (14 * v + 3)))
            refine ⟨?_, m, hm, ?_⟩
            · dsimp only; rw [l.1, p0]; exact pl
            · dsimp only; rw [l.2, p4, em]
          · rename_i t0
            exact hent _ _ (nxr_lt hb hD hr pc a2 (fun q => t0 q.symm)) (Or.inr (by omega))
  refine ⟨fun w hw => ?_, fun w hw => ?_⟩
  · by_cases q : w = v
    · subst q; exact key.1
    · rw [goC_o hb c hd (show 14 * w < 14 * v ∨ 14 * v + 14 ≤ 14 * w by omega)]; exact cb.pl w hw
  · by_cases q : w = v
    · subst q; exact key.2
    · rw [goC_o hb c hd (show 14 * w + 4 < 14 * v ∨ 14 * v + 14 ≤ 14 * w + 4 by omega)]; exact cb.ms w hw
theorem CB.mn {h mt lw : Nat → Nat} (hb : HB h) (h1 : 1 ≤ h 2) {D : Nat → Nat → Nat} (hD : DS h D) {c : Cr} (cb : CB h c) : ∀ v, v ≤ h 6 → CB h (mnS h mt lw D c v).1
  | 0, _ => cb
  | v + 1, hv => CB.go hb h1 hD (CB.mn hb h1 hD cb v (by omega)) _ (by omega)
theorem CB.c {h : Nat → Nat} (hb : HB h) {c c' : Cr} (cb : CB h c) (e : ∀ i, i < 420 → c' i = c i) : CB h c' := by
  have h6 := hb.r6
  exact ⟨fun v hv => by rw [e _ (by omega)]; exact cb.pl v hv, fun v hv => by rw [e _ (by omega)]; exact cb.ms v hv⟩
theorem CB.min {h mt lw : Nat → Nat} (hb : HB h) (h1 : 1 ≤ h 2) {D : Nat → Nat → Nat} (hD : DS h D) {c : Cr} (cb : CB h c) : CB h (minC h mt lw D c) := (CB.mn hb h1 hD cb (h 6) (Nat.le_refl _)).c hb (fun i hi => fup_o (by omega))
theorem s_min16 {h mt lw : Nat → Nat} (hb : HB h) (h1 : 1 ≤ h 2) {D : Nat → Nat → Nat} (hD : DS h D) {kk : Nat} {c : Cr} (cb : CB h c) : ∀ (d v : Nat) (b : mx_S), v + d = h 6 → ME h mt lw D b → MC kk (mnS h mt lw D c v).1 b → (∀ q, q < 8 → b 0 48 q = (mnS h mt lw D c v).2 q) → ∃ b', mx_H 143 16 [some (mx_R 0 39), some (mx_R kk 45), some (mx_I (nI v))] b = some (none, b') ∧ MC kk (minC h mt lw D c) b' ∧ kq (S458 kk) b b' := by
  have h6 := hb.r6
  intro d
  induction d with
  | zero =>
    intro v b hd e hc hh
    have ev : v = h 6 := by omega
    subst ev
    have hX := e_M_minute_16 kk (nI (h 6)) b
    rw [q_gl (by decide) (by decide), e.m 6 (by decide), if_pos ((q_leN (by omega) (by omega)).mpr (Nat.le_refl _)), g420, g420, q_w, hc _ (by decide)] at hX
    exact ⟨_, hX, hc.up _ _, kq_up kq_rf (Or.inl ⟨rfl, rfl⟩)⟩
  | succ d ih =>
    intro v b hd e hc hh
    obtain ⟨b1, f1, f2, f3, f4⟩ := s_goes hb h1 hD e (CB.mn hb h1 hD cb v (by omega)) hc hh (show v < h 6 by omega)
    obtain ⟨b', g1, g2, g3⟩ := ih (v + 1) b1 (by omega) (e.q f4) f2 f3
    have hX := e_M_minute_16 kk (nI v) b
    rw [q_gl (by decide) (by decide), e.m 6 (by decide), if_neg (by rw [q_leN (by omega) (by omega)]; omega), f1, q_bV, nI_1] at hX
    exact ⟨b', hX.trans g1, g2, kq_tr f4 g3⟩
theorem s_min3 {kk : Nat} : ∀ (d p : Nat) (b : mx_S), p + d = 8 → mx_H 143 3 [some (mx_R 0 39), some (mx_R kk 45), some (mx_I (nI p))] b = mx_H 143 16 [some (mx_R 0 39), some (mx_R kk 45), some (mx_I (nI 0))] (mx_fl b 0 48 p 8 0) := by
  intro d
  induction d with
  | zero =>
    intro p b hd
    have e : p = 8 := by omega
    subst e
    rw [e_M_minute_3, if_pos (by decide)]
    congr 1
    funext k' o' j'
    rw [q_fl, if_neg (by omega)]
  | succ d ih =>
    intro p b hd
    rw [e_M_minute_3, if_neg (by rw [q_lit, q_leN (by decide) (by omega)]; omega), q_g (by omega) (by decide), q_w, nI_1, ih (p + 1) _ (by omega)]
    congr 1
    funext k' o' j'
    rw [q_fl, q_fl, q_up]
    split <;> split <;> (try split) <;> first | rfl | (exfalso; omega)
/-- M's minute is minC -/
theorem s_minute {h mt lw : Nat → Nat} (hb : HB h) (h1 : 1 ≤ h 2) {D : Nat → Nat → Nat} (hD : DS h D) {kk : Nat} {b : mx_S} (e : ME h mt lw D b) {c : Cr} (cb : CB h c) (hc : MC kk c b) : ∃ b', mx_sem 143 [mx_R 0 39, mx_R kk 45] b = some (none, b') ∧ MC kk (minC h mt lw D c) b' ∧ kq (S458 kk) b b' := by
  have k1 : kq (S458 kk) b (mx_fl b 0 48 0 8 0) := kq_fl kq_rf (fun j => Or.inr rfl)
  obtain ⟨b', g1, g2, g3⟩ := s_min16 hb h1 hD cb (h 6) 0 (mx_fl b 0 48 0 8 0) (by omega) (e.q k1) (hc.k (fun j => by rw [q_flo (by decide)])) (fun q hq => by
    rw [q_fl, if_pos (by omega)]; rfl)
  refine ⟨b', ?_, g2, kq_tr k1 g3⟩
  rw [e_M_minute, show mx_I 0 = mx_I (nI 0) from rfl, s_min3 8 0 b (by omega)]
  exact g1
