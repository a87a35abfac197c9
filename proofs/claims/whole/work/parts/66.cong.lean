/-! ===== one house beside another ===== -/
theorem lead_c {h h' : Nat → Nat} (hb : HB h) (e3 : h' 3 = h 3) (e : ∀ i, 13 ≤ i → i < 40 → h' i = h i) (a b : Nat) : lead h' a b ↔ lead h a b := by
  have h3 := hb.r3
  have key : ∀ d, d < h 3 → (ldr h' d a b ↔ ldr h d a b) := fun d hd => by
    unfold ldr
    rw [e _ (by omega) (by omega), e _ (by omega) (by omega), e _ (by omega) (by omega)]
  constructor
  · rintro ⟨d, hd, l⟩
    exact ⟨d, by omega, (key d (by omega)).mp l⟩
  · rintro ⟨d, hd, l⟩
    exact ⟨d, by omega, (key d hd).mpr l⟩
theorem walk_c {h h' : Nat → Nat} (l : ∀ a b, lead h' a b ↔ lead h a b) : ∀ (k a b : Nat), walk h' k a b ↔ walk h k a b
  | 0, a, b => Iff.rfl
  | k + 1, a, b => by
    constructor
    · rintro ⟨c, w, q⟩
      exact ⟨c, (walk_c l k a c).mp w, (l c b).mp q⟩
    · rintro ⟨c, w, q⟩
      exact ⟨c, (walk_c l k a c).mpr w, (l c b).mpr q⟩
theorem DS.c {h h' : Nat → Nat} (hb : HB h) {D : Nat → Nat → Nat} (hD : DS h D) (e2 : h' 2 = h 2) (e3 : h' 3 = h 3) (e : ∀ i, 13 ≤ i → i < 40 → h' i = h i) : DS h' D := by
  have w := walk_c (lead_c hb e3 e)
  intro a b ha hb2
  rw [e2] at ha hb2
  obtain ⟨d1, d2, d3⟩ := hD a b ha hb2
  exact ⟨d1, fun q => (w _ _ _).mpr (d2 q), fun k q => d3 k ((w _ _ _).mp q)⟩
theorem gOf_c {h h' : Nat → Nat} {v : Nat} : ∀ n, (∀ g, g < n → h' (56 + 4 * g) = h (56 + 4 * g)) → gOf h' v n = gOf h v n
  | 0, _ => rfl
  | n + 1, e => by
    unfold gOf
    rw [gOf_c n (fun g hg => e g (by omega)), sm_c n (fun g hg => e g (by omega))]
theorem gO_c {h h' : Nat → Nat} (e5 : h' 5 = h 5) (e : ∀ g, g < h 5 → h' (56 + 4 * g) = h (56 + 4 * g)) (v : Nat) : gO h' v = gO h v := by
  unfold gO
  rw [e5]
  exact gOf_c _ e
theorem opn_c {h h' : Nat → Nat} {D D' : Nat → Nat → Nat} {r : Nat} {dn : Int32} {p : Nat} (e1 : h' (40 + 2 * p) = h (40 + 2 * p)) (e3 : D' r (h (40 + 2 * p)) = D r (h (40 + 2 * p))) : opn h' D' r dn p = opn h D r dn p := by
  unfold opn
  rw [e1, e3]
theorem wor_c {h h' : Nat → Nat} {D D' : Nat → Nat → Nat} {r p : Nat} (e1 : h' (40 + 2 * p) = h (40 + 2 * p)) (e2 : h' (41 + 2 * p) = h (41 + 2 * p)) (e3 : D' r (h (40 + 2 * p)) = D r (h (40 + 2 * p))) : wor h' D' r p = wor h D r p := by
  unfold wor
  rw [e1, e2, e3]
theorem aimR_c {h h' : Nat → Nat} {D D' : Nat → Nat → Nat} {l r : Nat} {dn : Int32} (e : ∀ p, p < h 4 → h' (40 + 2 * p) = h (40 + 2 * p) ∧ h' (41 + 2 * p) = h (41 + 2 * p) ∧ D' r (h (40 + 2 * p)) = D r (h (40 + 2 * p))) : ∀ (d p best : Nat) (most : Int32), p + d = h 4 → aimR h' D' l r dn d p best most = aimR h D l r dn d p best most
  | 0, p, best, most, _ => rfl
  | d + 1, p, best, most, hp => by
    obtain ⟨e1, e2, e3⟩ := e p (by omega)
    unfold aimR
    rw [opn_c e1 e3, wor_c e1 e2 e3, aimR_c e d (p + 1) p _ (by omega), aimR_c e d (p + 1) best _ (by omega)]
theorem aimF_c {h h' : Nat → Nat} {D D' : Nat → Nat → Nat} {l r : Nat} {dn : Int32} (e4 : h' 4 = h 4) (e : ∀ p, p < h 4 → h' (40 + 2 * p) = h (40 + 2 * p) ∧ h' (41 + 2 * p) = h (41 + 2 * p) ∧ D' r (h (40 + 2 * p)) = D r (h (40 + 2 * p))) : aimF h' D' l r dn = aimF h D l r dn := by
  unfold aimF
  rw [e4]
  exact aimR_c e (h 4) 0 1000 0 (by omega)
theorem nb_c {D D' : Nat → Nat → Nat} {x t : Nat} : ∀ n, (∀ i, i < n → D' x i = D x i ∧ D' i t = D i t) → nb D' x t n = nb D x t n
  | 0, _ => rfl
  | n + 1, e => by
    unfold nb
    rw [nb_c n (fun i hi => e i (by omega)), (e n (by omega)).1, (e n (by omega)).2]
theorem XW.d {k : Nat} {h : Nat → Nat} {D D' : Nat → Nat → Nat} {a : mx_S} (x : XW k (h 2) D a) (hD : DS h D) (hD' : DS h D') : XW k (h 2) D' a := by
  have e : ∀ y z, y < h 2 → z < h 2 → D' y z = D y z := fun y z hy hz => DS_eq hD' hD hy hz
  refine ⟨fun y z hy hz => by rw [e y z hy hz]; exact x.1 y z hy hz, fun y z hy hz => ?_⟩
  rw [x.2 y z hy hz]
  unfold nxr
  rw [nb_c (D := D) (D' := D') (h 2) (fun i hi => ⟨e y i hy hi, e i z hi hz⟩)]
theorem XA.d {k : Nat} {h lw : Nat → Nat} (hb : HB h) {D D' : Nat → Nat → Nat} {c : Cr} (cb : CB h c) {a : mx_S} (x : XA k h lw D c a) (hD : DS h D) (hD' : DS h D') : XA k h lw D' c a := by
  have h2 := hb.r2
  intro v hv
  rw [x v hv]
  rcases cb.pl v hv with q | q | ⟨r, hr, q⟩
  · rw [aV_o (Or.inl q), aV_o (Or.inl q)]
  · rw [aV_o (Or.inr q), aV_o (Or.inr q)]
  · rw [aV_r (by omega) q, aV_r (by omega) q, aimF_c (h := h) (h' := h) (D := D) (D' := D') rfl (fun p hp => ⟨rfl, rfl, DS_eq hD' hD hr (hb.pc p hp).1⟩)]
theorem XH.d {k : Nat} {h : Nat → Nat} {D D' : Nat → Nat → Nat} {c : Cr} {a : mx_S} (x : XH k h D c a) (g : GH h D c) (hD' : DS h D') : XH k h D' c a := ⟨x.p, x.w.d g.hD hD', x.b, x.a.d g.hb g.cb g.hD hD'⟩
theorem GH.d {h : Nat → Nat} {D D' : Nat → Nat → Nat} {c : Cr} (g : GH h D c) (hD' : DS h D') : GH h D' c := ⟨g.hb, hD', g.cb, g.cd, g.nz⟩
theorem GH.me {h : Nat → Nat} {D : Nat → Nat → Nat} {c : Cr} {b : mx_S} (g : GH h D c) (m : MH 43 h b) (f : MF D b) (e1 : b 0 39 21 = -1) (e2 : b 0 39 22 = -1) : ME h (mt0 h) (lw0 h) D b := by
  have h4 := g.hb.r4
  refine ⟨m, f, fun gg hg => ?_, fun p hp => Or.inr ⟨?_, rfl⟩⟩
  · rw [e1]
    exact ⟨(g.hb.gr gg hg).2.2.2.1, Or.inl ⟨by decide, rfl⟩⟩
  · rw [e2]
    exact fun q => nI_m1 (by omega) q.symm
theorem GH.lw {h : Nat → Nat} {D : Nat → Nat → Nat} {c : Cr} (g : GH h D c) : ∀ gg, gg < h 5 → lw0 h gg ≤ 2 := fun gg hg => (g.hb.gr gg hg).2.2.2.1
/-! copies -/
theorem q_c0 {α : Type} {fl : α} {σ : mx_S} {n k o k1 o1 : Nat} {y : Int32} {f : mx_S → α} (hy : y = nI n) (h1 : n ≤ mx_aN o) (h2 : n ≤ mx_aN o1) (h3 : mx_aN o < 2147483648) (h4 : mx_aN o1 < 2147483648) : mx_c σ (0 : Int32) (0 : Int32) k o y k1 o1 fl f = f (mx_cp σ k o k1 o1 0 0 n) := by
  subst hy
  exact q_c (sp := 0) (dp := 0) (by omega) (by omega) h3 h4
def SP (k0 k o _j : Nat) : Prop := k = k0 ∧ 1 ≤ o ∧ o ≤ 15
/-- a store whose part k0 took over the plan and the ways of k1 -/
def TK (k0 k1 : Nat) (a a' : mx_S) : Prop :=
  (∀ j, j = 0 ∨ j = 1 ∨ j = 2 ∨ j = 4 ∨ j = 8 ∨ j = 12 ∨ j = 17 → a' k0 1 j = a k1 1 j) ∧ (∀ j, j < 6 → a' k0 2 j = a k1 2 j) ∧ (∀ j, j < 9 → a' k0 3 j = a k1 3 j ∧ a' k0 4 j = a k1 4 j ∧ a' k0 5 j = a k1 5 j) ∧ (∀ j, j < 8 → a' k0 6 j = a k1 6 j ∧ a' k0 7 j = a k1 7 j ∧ a' k0 8 j = a k1 8 j) ∧ (∀ j, j < 6 → a' k0 9 j = a k1 9 j ∧ a' k0 10 j = a k1 10 j ∧ a' k0 11 j = a k1 11 j ∧ a' k0 12 j = a k1 12 j) ∧ (∀ j, j < 36 → a' k0 14 j = a k1 14 j ∧ a' k0 15 j = a k1 15 j)
theorem TK.f {k0 k1 : Nat} {a a' : mx_S} (x_ : TK k0 k1 a a') : ∀ j, j = 0 ∨ j = 1 ∨ j = 2 ∨ j = 4 ∨ j = 8 ∨ j = 12 ∨ j = 17 → a' k0 1 j = a k1 1 j := x_.1
theorem TK.r {k0 k1 : Nat} {a a' : mx_S} (x_ : TK k0 k1 a a') : ∀ j, j < 6 → a' k0 2 j = a k1 2 j := x_.2.1
theorem TK.d {k0 k1 : Nat} {a a' : mx_S} (x_ : TK k0 k1 a a') : ∀ j, j < 9 → a' k0 3 j = a k1 3 j ∧ a' k0 4 j = a k1 4 j ∧ a' k0 5 j = a k1 5 j := x_.2.2.1
theorem TK.p {k0 k1 : Nat} {a a' : mx_S} (x_ : TK k0 k1 a a') : ∀ j, j < 8 → a' k0 6 j = a k1 6 j ∧ a' k0 7 j = a k1 7 j ∧ a' k0 8 j = a k1 8 j := x_.2.2.2.1
theorem TK.g {k0 k1 : Nat} {a a' : mx_S} (x_ : TK k0 k1 a a') : ∀ j, j < 6 → a' k0 9 j = a k1 9 j ∧ a' k0 10 j = a k1 10 j ∧ a' k0 11 j = a k1 11 j ∧ a' k0 12 j = a k1 12 j := x_.2.2.2.2.1
theorem TK.w {k0 k1 : Nat} {a a' : mx_S} (x_ : TK k0 k1 a a') : ∀ j, j < 36 → a' k0 14 j = a k1 14 j ∧ a' k0 15 j = a k1 15 j := x_.2.2.2.2.2
set_option maxHeartbeats 4000000 in
theorem s_takePlan {k0 k1 : Nat} (hk : k1 ≠ k0) (a : mx_S) : ∃ a', mx_sem 34 [mx_R k0 0, mx_R k1 0] a = some (none, a') ∧ TK k0 k1 a a' ∧ kq (SP k0) a a' := by
  refine ⟨mx_cp (mx_cp (mx_cp (mx_cp (mx_cp (mx_cp (mx_cp (mx_cp (mx_cp (mx_cp (mx_cp (mx_cp (mx_cp (mx_up (mx_up (mx_up (mx_up (mx_up (mx_up (mx_up a k0 1 0 (a k1 1 0)) k0 1 1 (a k1 1 1)) k0 1 2 (a k1 1 2)) k0 1 4 (a k1 1 4)) k0 1 8 (a k1 1 8)) k0 1 12 (a k1 1 12)) k0 1 17 (a k1 1 17)) k1 2 k0 2 0 0 6) k1 3 k0 3 0 0 9) k1 4 k0 4 0 0 9) k1 5 k0 5 0 0 9) k1 6 k0 6 0 0 8) k1 7 k0 7 0 0 8) k1 8 k0 8 0 0 8) k1 9 k0 9 0 0 6) k1 10 k0 10 0 0 6) k1 11 k0 11 0 0 6) k1 12 k0 12 0 0 6) k1 14 k0 14 0 0 36) k1 15 k0 15 0 0 36, ?_, ?_, ?_⟩
  · rw [e_H_takePlan, e_P_takeOver, q_w, q_uk hk, q_w, q_uk hk, q_uk hk, q_w, q_uk hk, q_uk hk, q_uk hk, q_w, q_uk hk, q_uk hk, q_uk hk, q_uk hk, q_w, q_uk hk, q_uk hk, q_uk hk, q_uk hk, q_uk hk, q_w, q_uk hk, q_uk hk, q_uk hk, q_uk hk, q_uk hk, q_uk hk, q_w]
    rw [q_c0 (n := 6) (by rfl) (by decide) (by decide) (by decide) (by decide), q_c0 (n := 9) (by rfl) (by decide) (by decide) (by decide) (by decide), q_c0 (n := 9) (by rfl) (by decide) (by decide) (by decide) (by decide), q_c0 (n := 9) (by rfl) (by decide) (by decide) (by decide) (by decide), q_c0 (n := 8) (by rfl) (by decide) (by decide) (by decide) (by decide), q_c0 (n := 8) (by rfl) (by decide) (by decide) (by decide) (by decide), q_c0 (n := 8) (by rfl) (by decide) (by decide) (by decide) (by decide), q_c0 (n := 6) (by rfl) (by decide) (by decide) (by decide) (by decide), q_c0 (n := 6) (by rfl) (by decide) (by decide) (by decide) (by decide), q_c0 (n := 6) (by rfl) (by decide) (by decide) (by decide) (by decide), q_c0 (n := 6) (by rfl) (by decide) (by decide) (by decide) (by decide), q_bV, e_W_takeOver, q_c0 (n := 36) (by rfl) (by decide) (by decide) (by decide) (by decide), q_c0 (n := 36) (by rfl) (by decide) (by decide) (by decide) (by decide), q_bV]
  · refine ⟨fun j hj => ?_, fun j hj => ?_, fun j hj => ⟨?_, ?_, ?_⟩, fun j hj => ⟨?_, ?_, ?_⟩, fun j hj => ⟨?_, ?_, ?_, ?_⟩, fun j hj => ⟨?_, ?_⟩⟩
    · rcases hj with rfl | rfl | rfl | rfl | rfl | rfl | rfl <;> simp [q_up, q_cpy, hk]
    all_goals simp [q_up, q_cpy, hk, hj]
  · refine kq_cp (kq_cp (kq_cp (kq_cp (kq_cp (kq_cp (kq_cp (kq_cp (kq_cp (kq_cp (kq_cp (kq_cp (kq_cp (kq_up (kq_up (kq_up (kq_up (kq_up (kq_up (kq_up kq_rf ?_) ?_) ?_) ?_) ?_) ?_) ?_) ?_) ?_) ?_) ?_) ?_) ?_) ?_) ?_) ?_) ?_) ?_) ?_) ?_
    all_goals first | exact ⟨rfl, by omega, by omega⟩ | exact fun j => ⟨rfl, by omega, by omega⟩
theorem TK.x {k0 k1 : Nat} {a a' : mx_S} (t : TK k0 k1 a a') {h mt lw : Nat → Nat} (hb : HB h) (x : XP k1 h mt lw a) : XP k0 h mt lw a' := by
  have r2 := hb.r2
  have r3 := hb.r3
  have r4 := hb.r4
  have r5 := hb.r5
  refine ⟨by rw [t.f 0 (by omega)]; exact x.f0, by rw [t.f 1 (by omega)]; exact x.f1, by rw [t.f 2 (by omega)]; exact x.f2, by rw [t.f 4 (by omega)]; exact x.f4, by rw [t.f 8 (by omega)]; exact x.f8, by rw [t.f 12 (by omega)]; exact x.f12, by rw [t.f 17 (by omega)]; exact x.f17, fun i hi => by rw [t.r i (by omega)]; exact x.rm i hi, fun i hi => ?_, fun i hi => ?_, fun i hi => ?_⟩
  · obtain ⟨e1, e2, e3⟩ := t.d i (by omega)
    rw [e1, e2, e3]; exact x.dr i hi
  · obtain ⟨e1, e2, e3⟩ := t.p i (by omega)
    rw [e1, e2, e3]; exact x.pc i hi
  · obtain ⟨e1, e2, e3, e4⟩ := t.g i (by omega)
    rw [e1, e2, e3, e4]; exact x.gr i hi
theorem TK.xw {k0 k1 : Nat} {a a' : mx_S} (t : TK k0 k1 a a') {n : Nat} (hn : n ≤ 6) {D : Nat → Nat → Nat} (x : XW k1 n D a) : XW k0 n D a' := ⟨fun y z hy hz => by rw [(t.w _ (by omega)).1]; exact x.1 y z hy hz, fun y z hy hz => by rw [(t.w _ (by omega)).2]; exact x.2 y z hy hz⟩
def TC (k0 k1 : Nat) (a a' : mx_S) : Prop :=
  (∀ j, j = 2 ∨ j = 3 → a' k0 16 j = a k1 16 j) ∧ (∀ o j, (17 ≤ o ∧ o ≤ 23) ∨ o = 26 → j < 30 → a' k0 o j = a k1 o j) ∧ (∀ j, j < 240 → a' k0 24 j = a k1 24 j) ∧ (∀ j, j < 6 → a' k0 25 j = a k1 25 j)
theorem TC.f {k0 k1 : Nat} {a a' : mx_S} (x_ : TC k0 k1 a a') : ∀ j, j = 2 ∨ j = 3 → a' k0 16 j = a k1 16 j := x_.1
theorem TC.v {k0 k1 : Nat} {a a' : mx_S} (x_ : TC k0 k1 a a') : ∀ o j, (17 ≤ o ∧ o ≤ 23) ∨ o = 26 → j < 30 → a' k0 o j = a k1 o j := x_.2.1
theorem TC.l {k0 k1 : Nat} {a a' : mx_S} (x_ : TC k0 k1 a a') : ∀ j, j < 240 → a' k0 24 j = a k1 24 j := x_.2.2.1
theorem TC.i {k0 k1 : Nat} {a a' : mx_S} (x_ : TC k0 k1 a a') : ∀ j, j < 6 → a' k0 25 j = a k1 25 j := x_.2.2.2
def SC (k0 k o j : Nat) : Prop := k = k0 ∧ ((o = 16 ∧ (j = 2 ∨ j = 3)) ∨ (17 ≤ o ∧ o ≤ 26))
set_option maxHeartbeats 4000000 in
theorem s_takeCrowd {k0 k1 : Nat} (hk : k1 ≠ k0) (a : mx_S) : ∃ a', mx_sem 30 [mx_R k0 16, mx_R k1 16] a = some (none, a') ∧ TC k0 k1 a a' ∧ kq (SC k0) a a' := by
  refine ⟨mx_cp (mx_cp (mx_cp (mx_cp (mx_cp (mx_cp (mx_cp (mx_cp (mx_cp (mx_cp (mx_up (mx_up a k0 16 2 (a k1 16 2)) k0 16 3 (a k1 16 3)) k1 17 k0 17 0 0 30) k1 18 k0 18 0 0 30) k1 19 k0 19 0 0 30) k1 20 k0 20 0 0 30) k1 21 k0 21 0 0 30) k1 22 k0 22 0 0 30) k1 23 k0 23 0 0 30) k1 24 k0 24 0 0 240) k1 25 k0 25 0 0 6) k1 26 k0 26 0 0 30, ?_, ?_, ?_⟩
  · rw [e_C_takeOver, q_w, q_uk hk, q_w]
    rw [q_c0 (n := 30) (by rfl) (by decide) (by decide) (by decide) (by decide), q_c0 (n := 30) (by rfl) (by decide) (by decide) (by decide) (by decide), q_c0 (n := 30) (by rfl) (by decide) (by decide) (by decide) (by decide), q_c0 (n := 30) (by rfl) (by decide) (by decide) (by decide) (by decide), q_c0 (n := 30) (by rfl) (by decide) (by decide) (by decide) (by decide), q_c0 (n := 30) (by rfl) (by decide) (by decide) (by decide) (by decide), q_c0 (n := 30) (by rfl) (by decide) (by decide) (by decide) (by decide), q_c0 (n := 240) (by rfl) (by decide) (by decide) (by decide) (by decide), q_c0 (n := 6) (by rfl) (by decide) (by decide) (by decide) (by decide), q_c0 (n := 30) (by rfl) (by decide) (by decide) (by decide) (by decide)]
  · refine ⟨fun j hj => ?_, fun o j ho hj => ?_, fun j hj => ?_, fun j hj => ?_⟩
    · rcases hj with rfl | rfl <;> simp [q_up, q_cpy, hk]
    · have : o = 17 ∨ o = 18 ∨ o = 19 ∨ o = 20 ∨ o = 21 ∨ o = 22 ∨ o = 23 ∨ o = 26 := by omega
      rcases this with rfl | rfl | rfl | rfl | rfl | rfl | rfl | rfl <;> simp [q_up, q_cpy, hk, hj]
    · simp [q_up, q_cpy, hk, hj]
    · simp [q_up, q_cpy, hk, hj]
  · refine kq_cp (kq_cp (kq_cp (kq_cp (kq_cp (kq_cp (kq_cp (kq_cp (kq_cp (kq_cp (kq_up (kq_up kq_rf ?_) ?_) ?_) ?_) ?_) ?_) ?_) ?_) ?_) ?_) ?_) ?_
    all_goals first | exact ⟨rfl, by omega⟩ | exact fun j => ⟨rfl, by omega⟩
theorem s_takeAll {k0 k1 : Nat} (hk : k1 ≠ k0) {h : Nat → Nat} {D : Nat → Nat → Nat} {c : Cr} {a : mx_S} (hb : HB h) (x : XH k1 h D c a) : ∃ a', mx_sem 35 [mx_R k0 0, mx_R k1 0] a = some (none, a') ∧ XH k0 h D c a' ∧ kq (fun k o j => SP k0 k o j ∨ SC k0 k o j) a a' := by
  have h2 := hb.r2
  have h6 := hb.r6
  obtain ⟨a1, f1, f2, f3⟩ := s_takePlan hk a
  obtain ⟨a2, g1, g2, g3⟩ := s_takeCrowd hk a1
  have e1 : ∀ o j, a1 k1 o j = a k1 o j := fun o j => f3 k1 o j (fun q => hk q.1)
  have x1 : XP k0 h (mt0 h) (lw0 h) a2 := (f2.x hb x.p).k (fun o j q1 q2 => g3 k0 o j (fun q => by have := q.2; omega))
  have w1 : XW k0 (h 2) D a2 := (f2.xw h2 x.w).k (fun o j q1 q2 => g3 k0 o j (fun q => by have := q.2; omega))
  have xb := x.b
  refine ⟨a2, by rw [e_H_takeAll, f1, q_bV, g1, q_bV], ⟨x1, w1, ⟨by rw [g2.f 2 (by omega), e1]; exact xb.mn, by rw [g2.f 3 (by omega), e1]; exact xb.ou, fun v hv => by rw [g2.v 17 v (by omega) (by omega), e1]; exact xb.gr v hv, fun v hv => by rw [g2.v 18 v (by omega) (by omega), e1]; exact xb.pl v hv, fun v hv => by rw [g2.v 19 v (by omega) (by omega), e1]; exact xb.pa v hv, fun v hv => by rw [g2.v 20 v (by omega) (by omega), e1]; exact xb.sa v hv, fun v hv => by rw [g2.v 21 v (by omega) (by omega), e1]; exact xb.dn v hv, fun v hv => by rw [g2.v 22 v (by omega) (by omega), e1]; exact xb.ms v hv, fun v hv => by rw [g2.v 26 v (by omega) (by omega), e1]; exact xb.la v hv, fun v p hv hp => by rw [g2.l _ (by omega), e1]; exact xb.lo v p hv hp, fun r hr => by rw [g2.i r (by omega), e1]; exact xb.ins r hr⟩, fun v hv => by rw [g2.v 23 v (by omega) (by omega), e1]; exact x.a v hv⟩, kq_tr (kq_mono f3 (fun _ _ _ q => Or.inl q)) (kq_mono g3 (fun _ _ _ q => Or.inr q))⟩
