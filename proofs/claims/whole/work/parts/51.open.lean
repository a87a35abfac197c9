/-! ===== X's Ways ===== -/
def SW (k k' o _j : Nat) : Prop := k' = k ∧ (o = 14 ∨ o = 15)
theorem XP.w {k : Nat} {h mt lw : Nat → Nat} {a a' : mx_S} (x : XP k h mt lw a) (e : kq (SW k) a a') : XP k h mt lw a' := x.k (fun o j h1 h2 => e k o j (fun q => by have := q.2; omega))
theorem s_open7 {k : Nat} {h mt lw : Nat → Nat} (hb : HB h) : ∀ (d i : Nat) (s : mx_S), i + d = h 2 → XP k h mt lw s → (∀ a b, a < 6 → b < 6 → s k 14 (a * 6 + b) = nI (if a = b ∧ a < i then 0 else 1000)) → ∃ s', mx_H 64 7 [some (mx_R k 13), some (mx_R k 1), some (mx_I (nI i))] s = mx_H 64 25 [some (mx_R k 13), some (mx_R k 1), some (mx_I (nI 0))] s' ∧ (∀ a b, a < 6 → b < 6 → s' k 14 (a * 6 + b) = nI (Edg h 0 a b)) ∧ kq (SW k) s s' := by
  have h2 := hb.r2
  intro d
  induction d with
  | zero =>
    intro i s hd hx hm
    have ei : i = h 2 := by omega
    subst ei
    refine ⟨s, ?_, hm, kq_rf⟩
    rw [e_W_openDoors_7, hx.f2, if_pos ((q_leN (by omega) (by omega)).mpr (Nat.le_refl _))]; rfl
  | succ d ih =>
    intro i s hd hx hm
    have k1 : kq (SW k) s (mx_up s k 14 (i * 6 + i) 0) := kq_up kq_rf ⟨rfl, Or.inl rfl⟩
    obtain ⟨s', e1, e2, e3⟩ := ih (i + 1) (mx_up s k 14 (i * 6 + i) 0) (by omega) (hx.w k1) (fun a b ha hb => by
      by_cases e : a = i ∧ b = i
      · rw [e.1, e.2, q_us, if_pos (by omega)]; rfl
      · rw [q_uj (by omega), hm a b ha hb]
        congr 1
        split <;> split <;> omega)
    refine ⟨s', ?_, e2, kq_tr k1 e3⟩
    rw [e_W_openDoors_7, hx.f2, if_neg (by rw [q_leN (by omega) (by omega)]; omega), q_gx (n := i * 6 + i) (by rw [q_lit, q_mul, q_add]) (by omega) (by decide), q_w, nI_1]
    exact e1
theorem s_open25 {k : Nat} {h mt lw : Nat → Nat} (hb : HB h) : ∀ (e d : Nat) (s : mx_S), d + e = h 3 → XP k h mt lw s → (∀ a b, a < 6 → b < 6 → s k 14 (a * 6 + b) = nI (Edg h d a b)) → ∃ s', mx_H 64 25 [some (mx_R k 13), some (mx_R k 1), some (mx_I (nI d))] s = some (none, s') ∧ (∀ a b, a < 6 → b < 6 → s' k 14 (a * 6 + b) = nI (Edg h (h 3) a b)) ∧ kq (SW k) s s' := by
  have h2 := hb.r2
  have h3 := hb.r3
  intro e
  induction e with
  | zero =>
    intro d s hd hx hm
    have ei : d = h 3 := by omega
    subst ei
    refine ⟨s, ?_, hm, kq_rf⟩
    rw [e_W_openDoors_25, hx.f4, if_pos ((q_leN (by omega) (by omega)).mpr (Nat.le_refl _))]
  | succ e ih =>
    intro d s hd hx hm
    obtain ⟨d1, d2, d3, d4⟩ := hb.dr d (by omega)
    obtain ⟨x3, x4, x5⟩ := hx.dr d (by omega)
    generalize hu : h (13 + 3 * d) = u at d1 d3 x3
    generalize hv : h (14 + 3 * d) = v at d2 d3 x4
    generalize hw : h (15 + 3 * d) = w at d4 x5
    have k1 : kq (SW k) s (mx_up s k 14 (u * 6 + v) 1) := kq_up kq_rf ⟨rfl, Or.inl rfl⟩
    have hX := e_W_openDoors_25 k k (nI d) s
    rw [hx.f4, if_neg (by rw [q_leN (by omega) (by omega)]; omega), q_g (by omega) (by decide), q_g (by omega) (by decide), x3, x4, q_gx (n := u * 6 + v) (by rw [q_lit, q_mul, q_add]) (by omega) (by decide), q_w, q_g (by omega) (by decide), q_uo (by decide), x5, nI_1] at hX
    by_cases w0 : w = 0
    · subst w0
      rw [if_pos (by decide), q_g (by omega) (by decide), q_g (by omega) (by decide), q_uo (by decide), q_uo (by decide), x3, x4, q_gx (n := v * 6 + u) (by rw [q_lit, q_mul, q_add]) (by omega) (by decide), q_w] at hX
      have k2 : kq (SW k) s (mx_up (mx_up s k 14 (u * 6 + v) 1) k 14 (v * 6 + u) 1) := kq_up k1 ⟨rfl, Or.inl rfl⟩
      obtain ⟨s', e1, e2, e3⟩ := ih (d + 1) _ (by omega) (hx.w k2) (fun a b ha hb => by
        show _ = nI (if ldr h d a b then 1 else Edg h d a b)
        by_cases c1 : a = v ∧ b = u
        · rw [c1.1, c1.2, q_us, if_pos (Or.inr ⟨hw, hu, hv⟩)]; rfl
        · rw [q_uj (by omega)]
          by_cases c2 : a = u ∧ b = v
          · rw [c2.1, c2.2, q_us, if_pos (Or.inl ⟨hu, hv⟩)]; rfl
          · rw [q_uj (by omega), hm a b ha hb, if_neg]
            rintro (q | q) <;> omega)
      exact ⟨s', hX.trans e1, e2, kq_tr k2 e3⟩
    · rw [if_neg (by rw [q_lit, q_eqN (by omega) (by decide)]; exact w0)] at hX
      obtain ⟨s', e1, e2, e3⟩ := ih (d + 1) _ (by omega) (hx.w k1) (fun a b ha hb => by
        show _ = nI (if ldr h d a b then 1 else Edg h d a b)
        by_cases c2 : a = u ∧ b = v
        · rw [c2.1, c2.2, q_us, if_pos (Or.inl ⟨hu, hv⟩)]; rfl
        · rw [q_uj (by omega), hm a b ha hb, if_neg]
          rintro (q | q) <;> omega)
      exact ⟨s', hX.trans e1, e2, kq_tr k1 e3⟩
theorem s_open {k : Nat} {h mt lw : Nat → Nat} (hb : HB h) {s : mx_S} (hx : XP k h mt lw s) : ∃ s', mx_sem 64 [mx_R k 13, mx_R k 1] s = some (none, s') ∧ (∀ a b, a < 6 → b < 6 → s' k 14 (a * 6 + b) = nI (Edg h (h 3) a b)) ∧ kq (SW k) s s' := by
  have k0 : kq (SW k) s (mx_fl s k 14 0 36 1000) := kq_fl kq_rf (fun j => ⟨rfl, Or.inl rfl⟩)
  obtain ⟨s1, e1, e2, e3⟩ := s_open7 hb (h 2) 0 _ (by omega) (hx.w k0) (fun a b ha hb => by
    rw [q_fl, if_pos (by omega), if_neg (by omega)]; rfl)
  obtain ⟨s2, f1, f2, f3⟩ := s_open25 hb (h 3) 0 s1 (by omega) ((hx.w k0).w e3) e2
  refine ⟨s2, ?_, f2, kq_tr k0 (kq_tr e3 f3)⟩
  rw [e_W_openDoors, s_fill k 14 1000 s (by decide) (by decide) (by decide), q_bV]
  exact e1.trans f1
/-! Floyd's loops -/
def fpart (F : Nat → Nat → Nat) (v x y a b : Nat) : Nat := if a < x ∨ (a = x ∧ b < y) then flo F v a b else F a b
theorem s_flo20 {k : Nat} {h mt lw : Nat → Nat} (hb : HB h) {F : Nat → Nat → Nat} {v x : Nat} (hv : v < h 2) (hx0 : x < h 2) (hF : ∀ a b, a < h 2 → b < h 2 → F a b ≤ 1000) (hz : F v v = 0) : ∀ (d y : Nat) (s : mx_S), y + d = h 2 → XP k h mt lw s → (∀ a b, a < h 2 → b < h 2 → s k 14 (a * 6 + b) = nI (fpart F v x y a b)) → ∃ s', mx_H 66 20 [some (mx_R k 13), some (mx_R k 1), some (mx_I (nI v)), some (mx_I (nI x)), some (mx_I (nI y)), none] s = mx_H 66 13 [some (mx_R k 13), some (mx_R k 1), some (mx_I (nI v)), some (mx_I (nI (x + 1))), none, none] s' ∧ (∀ a b, a < h 2 → b < h 2 → s' k 14 (a * 6 + b) = nI (fpart F v (x + 1) 0 a b)) ∧ kq (SW k) s s' := by
  have h2 := hb.r2
  intro d
  induction d with
  | zero =>
    intro y s hd hx hm
    have ei : y = h 2 := by omega
    subst ei
    refine ⟨s, ?_, ?_, kq_rf⟩
    · rw [e_W_measure_20, hx.f2, if_pos ((q_leN (by omega) (by omega)).mpr (Nat.le_refl _)), nI_1]
    · intro a b ha hb
      rw [hm a b ha hb]
      congr 1
      unfold fpart
      by_cases c : a < x ∨ (a = x ∧ b < h 2)
      · rw [if_pos c, if_pos (by omega)]
      · rw [if_neg c, if_neg (by omega)]
  | succ d ih =>
    intro y s hd hx hm
    have g1 : fpart F v x y x v = F x v := by
      unfold fpart flo
      rw [hz]
      split
      · rw [if_neg (by omega)]
      · rfl
    have g2 : fpart F v x y v y = F v y := by
      unfold fpart flo
      rw [hz]
      split
      · rw [if_neg (by omega)]
      · rfl
    have g3 : fpart F v x y x y = F x y := by
      unfold fpart
      rw [if_neg (by omega)]
    have l1 := hF x v hx0 hv
    have l2 := hF v y hv (by omega)
    have l3 := hF x y hx0 (by omega)
    have hX := e_W_measure_20 k k (nI v) (nI x) (nI y) s
    rw [hx.f2, if_neg (by rw [q_leN (by omega) (by omega)]; omega), q_gx (n := x * 6 + v) (by rw [q_lit, q_mul, q_add]) (by omega) (by decide), q_gx (n := v * 6 + y) (by rw [q_lit, q_mul, q_add]) (by omega) (by decide), q_gx (n := x * 6 + y) (by rw [q_lit, q_mul, q_add]) (by omega) (by decide), q_gx (n := x * 6 + y) (by rw [q_lit, q_mul, q_add]) (by omega) (by decide), q_w, hm x v hx0 hv, hm v y hv (by omega), hm x y hx0 (by omega), g1, g2, g3, q_add, nI_1] at hX
    have ev : (if nI (F x v + F v y) < nI (F x y) then nI (F x v + F v y) else nI (F x y)) = nI (flo F v x y) := by
      unfold flo
      by_cases c : F x v + F v y < F x y
      · rw [if_pos c, if_pos ((q_ltN (by omega) (by omega)).mpr c)]
      · rw [if_neg c, if_neg (by rw [q_ltN (by omega) (by omega)]; exact c)]
    rw [ev] at hX
    have k1 : kq (SW k) s (mx_up s k 14 (x * 6 + y) (nI (flo F v x y))) := kq_up kq_rf ⟨rfl, Or.inl rfl⟩
    obtain ⟨s', e1, e2, e3⟩ := ih (y + 1) _ (by omega) (hx.w k1) (fun a b ha hb => by
      by_cases c : a = x ∧ b = y
      · rw [c.1, c.2, q_us]
        unfold fpart
        rw [if_pos (by omega)]
      · rw [q_uj (by omega), hm a b ha hb]
        congr 1
        unfold fpart
        by_cases c2 : a < x ∨ (a = x ∧ b < y)
        · rw [if_pos c2, if_pos (by omega)]
        · rw [if_neg c2, if_neg (by omega)])
    exact ⟨s', hX.trans e1, e2, kq_tr k1 e3⟩
theorem s_flo13 {k : Nat} {h mt lw : Nat → Nat} (hb : HB h) {F : Nat → Nat → Nat} {v : Nat} (hv : v < h 2) (hF : ∀ a b, a < h 2 → b < h 2 → F a b ≤ 1000) (hz : F v v = 0) : ∀ (d x : Nat) (s : mx_S), x + d = h 2 → XP k h mt lw s → (∀ a b, a < h 2 → b < h 2 → s k 14 (a * 6 + b) = nI (fpart F v x 0 a b)) → ∃ s', mx_H 66 13 [some (mx_R k 13), some (mx_R k 1), some (mx_I (nI v)), some (mx_I (nI x)), none, none] s = mx_H 66 6 [some (mx_R k 13), some (mx_R k 1), some (mx_I (nI (v + 1))), none, none, none] s' ∧ (∀ a b, a < h 2 → b < h 2 → s' k 14 (a * 6 + b) = nI (flo F v a b)) ∧ kq (SW k) s s' := by
  have h2 := hb.r2
  intro d
  induction d with
  | zero =>
    intro x s hd hx hm
    have ei : x = h 2 := by omega
    subst ei
    refine ⟨s, ?_, ?_, kq_rf⟩
    · rw [e_W_measure_13, hx.f2, if_pos ((q_leN (by omega) (by omega)).mpr (Nat.le_refl _)), nI_1]
    · intro a b ha hb
      rw [hm a b ha hb]
      congr 1
      unfold fpart
      rw [if_pos (by omega)]
  | succ d ih =>
    intro x s hd hx hm
    obtain ⟨s1, e1, e2, e3⟩ := s_flo20 hb hv (show x < h 2 by omega) hF hz (h 2) 0 s (by omega) hx hm
    obtain ⟨s', f1, f2, f3⟩ := ih (x + 1) s1 (by omega) (hx.w e3) e2
    refine ⟨s', ?_, f2, kq_tr e3 f3⟩
    rw [e_W_measure_13, hx.f2, if_neg (by rw [q_leN (by omega) (by omega)]; omega)]
    exact e1.trans f1
theorem s_flo6 {k : Nat} {h mt lw : Nat → Nat} (hb : HB h) : ∀ (d v : Nat) (F : Nat → Nat → Nat) (s : mx_S), v + d = h 2 → FI h v F → XP k h mt lw s → (∀ a b, a < h 2 → b < h 2 → s k 14 (a * 6 + b) = nI (F a b)) → ∃ D s', mx_H 66 6 [some (mx_R k 13), some (mx_R k 1), some (mx_I (nI v)), none, none, none] s = mx_H 66 69 [some (mx_R k 13), some (mx_R k 1), some (mx_I (nI 0)), none, none, none] s' ∧ DS h D ∧ (∀ a b, a < h 2 → b < h 2 → s' k 14 (a * 6 + b) = nI (D a b)) ∧ kq (SW k) s s' := by
  have h2 := hb.r2
  intro d
  induction d with
  | zero =>
    intro v F s hd hi hx hm
    have ei : v = h 2 := by omega
    subst ei
    refine ⟨F, s, ?_, FI_end hb hi, hm, kq_rf⟩
    rw [e_W_measure_6, hx.f2, if_pos ((q_leN (by omega) (by omega)).mpr (Nat.le_refl _))]; rfl
  | succ d ih =>
    intro v F s hd hi hx hm
    have hv : v < h 2 := by omega
    obtain ⟨s1, e1, e2, e3⟩ := s_flo13 hb hv hi.le (hi.ze v hv) (h 2) 0 s (by omega) hx (fun a b ha hb => by
      rw [hm a b ha hb]
      congr 1
      unfold fpart
      rw [if_neg (by omega)])
    obtain ⟨D, s', f1, f2, f3, f4⟩ := ih (v + 1) (flo F v) s1 (by omega) (FI_step hv hi) (hx.w e3) e2
    refine ⟨D, s', ?_, f2, f3, kq_tr e3 f4⟩
    rw [e_W_measure_6, hx.f2, if_neg (by rw [q_leN (by omega) (by omega)]; omega)]
    exact e1.trans f1
/-! the next room -/
/-- the best of the rooms below i (1000: none), and how far it is -/
def nb (D : Nat → Nat → Nat) (x t : Nat) : Nat → Nat × Nat
  | 0 => (1000, 1000)
  | i + 1 => if D x i = 1 ∧ D i t < (nb D x t i).2 then (i, D i t) else nb D x t i
def nxr (D : Nat → Nat → Nat) (n x t : Nat) : Nat := (nb D x t n).1
def vNo (x : Nat) : Int32 := if x = 1000 then -1 else nI x
theorem nb_ok (D : Nat → Nat → Nat) (x t : Nat) : ∀ i, i ≤ 6 → ((nb D x t i).1 = 1000 ∧ (nb D x t i).2 = 1000) ∨ ((nb D x t i).1 < i ∧ D x (nb D x t i).1 = 1 ∧ (nb D x t i).2 = D (nb D x t i).1 t ∧ (nb D x t i).2 < 1000)
  | 0, _ => Or.inl ⟨rfl, rfl⟩
  | i + 1, hi => by
    have h1 := nb_ok D x t i (by omega)
    unfold nb
    split
    · rename_i c
      refine Or.inr ⟨by show i < i + 1; omega, c.1, rfl, ?_⟩
      show D i t < 1000
      omega
    · rcases h1 with h1 | ⟨h1, h2⟩
      · exact Or.inl h1
      · exact Or.inr ⟨by omega, h2⟩
theorem nb_some (D : Nat → Nat → Nat) (x t : Nat) {c : Nat} (h1 : D x c = 1) (h2 : D c t < 1000) : ∀ i, i ≤ 6 → c < i → (nb D x t i).1 < i
  | 0, _, hc => by omega
  | i + 1, hi, hc => by
    have ok := nb_ok D x t i (by omega)
    unfold nb
    split
    · show i < i + 1; omega
    · rename_i q
      by_cases e : c = i
      · subst e
        rcases ok with ok | ok
        · exact absurd ⟨h1, by omega⟩ q
        · omega
      · have := nb_some D x t h1 h2 i (by omega) (by omega)
        omega
theorem s_next7 {k : Nat} {h mt lw : Nat → Nat} (hb : HB h) {D : Nat → Nat → Nat} (hD : DS h D) {x t : Nat} (hx0 : x < h 2) (ht : t < h 2) {s : mx_S} (hx : XP k h mt lw s) (hm : ∀ a b, a < h 2 → b < h 2 → s k 14 (a * 6 + b) = nI (D a b)) : ∀ (d i : Nat), i + d = h 2 → mx_H 65 7 [some (mx_R k 13), some (mx_R k 1), some (mx_I (nI x)), some (mx_I (nI t)), some (mx_I (vNo (nb D x t i).1)), some (mx_I (nI (nb D x t i).2)), some (mx_I (nI i))] s = some (some (mx_I (vNo (nxr D (h 2) x t))), s) := by
  have h2 := hb.r2
  intro d
  induction d with
  | zero =>
    intro i hd
    have ei : i = h 2 := by omega
    subst ei
    rw [e_W_nextRoom_7, hx.f2, if_pos ((q_leN (by omega) (by omega)).mpr (Nat.le_refl _))]; rfl
  | succ d ih =>
    intro i hd
    have ok := nb_ok D x t i (by omega)
    have l1 := (hD x i hx0 (by omega)).1
    have l2 := (hD i t (by omega) ht).1
    have l3 : (nb D x t i).2 ≤ 1000 := by rcases ok with ok | ok <;> omega
    have hih := ih (i + 1) (by omega)
    unfold nb at hih
    rw [e_W_nextRoom_7, hx.f2, if_neg (by rw [q_leN (by omega) (by omega)]; omega), q_gx (n := x * 6 + i) (by rw [q_lit, q_mul, q_add]) (by omega) (by decide), hm x i hx0 (by omega), nI_1]
    by_cases c1 : D x i = 1
    · rw [if_pos (by rw [c1]; rfl), q_gx (n := i * 6 + t) (by rw [q_lit, q_mul, q_add]) (by omega) (by decide), hm i t (by omega) ht]
      by_cases c2 : D i t < (nb D x t i).2
      · rw [if_pos ⟨c1, c2⟩] at hih
        rw [if_neg (by rw [q_leN (by omega) (by omega)]; omega), q_gx (n := i * 6 + t) (by rw [q_lit, q_mul, q_add]) (by omega) (by decide), hm i t (by omega) ht]
        rw [show vNo (i, D i t).1 = nI i by unfold vNo; rw [if_neg (by show ¬ i = 1000; omega)]] at hih
        exact hih
      · rw [if_neg (fun q => c2 q.2)] at hih
        rw [if_pos ((q_leN (by omega) (by omega)).mpr (by omega))]
        exact hih
    · rw [if_neg (fun q => c1 q.1)] at hih
      rw [if_neg (by rw [q_lit, q_eqN (by omega) (by decide)]; exact c1)]
      exact hih
theorem s_meas76 {k : Nat} {h mt lw : Nat → Nat} (hb : HB h) {D : Nat → Nat → Nat} (hD : DS h D) {x : Nat} (hx0 : x < h 2) : ∀ (d y : Nat) (s : mx_S), y + d = h 2 → XP k h mt lw s → (∀ a b, a < h 2 → b < h 2 → s k 14 (a * 6 + b) = nI (D a b)) → (∀ a b, a < h 2 → b < h 2 → a < x ∨ (a = x ∧ b < y) → s k 15 (a * 6 + b) = vNo (nxr D (h 2) a b)) → ∃ s', mx_H 66 76 [some (mx_R k 13), some (mx_R k 1), some (mx_I (nI x)), some (mx_I (nI y)), none, none] s = mx_H 66 69 [some (mx_R k 13), some (mx_R k 1), some (mx_I (nI (x + 1))), none, none, none] s' ∧ (∀ a b, a < h 2 → b < h 2 → s' k 14 (a * 6 + b) = nI (D a b)) ∧ (∀ a b, a < h 2 → b < h 2 → a < x + 1 → s' k 15 (a * 6 + b) = vNo (nxr D (h 2) a b)) ∧ kq (SW k) s s' := by
  have h2 := hb.r2
  intro d
  induction d with
  | zero =>
    intro y s hd hx hm hn
    have ei : y = h 2 := by omega
    subst ei
    refine ⟨s, ?_, hm, fun a b ha hb q => hn a b ha hb (by omega), kq_rf⟩
    rw [e_W_measure_76, hx.f2, if_pos ((q_leN (by omega) (by omega)).mpr (Nat.le_refl _)), nI_1]
  | succ d ih =>
    intro y s hd hx hm hn
    have hr := s_next7 hb hD hx0 (show y < h 2 by omega) hx hm (h 2) 0 (by omega)
    have hX := e_W_measure_76 k k (nI x) (nI y) s
    rw [hx.f2, if_neg (by rw [q_leN (by omega) (by omega)]; omega), e_W_nextRoom, show mx_I (-1) = mx_I (vNo (nb D x y 0).1) from rfl, show mx_I 1000 = mx_I (nI (nb D x y 0).2) from rfl, show mx_I 0 = mx_I (nI 0) from rfl, hr, q_bI, q_gx (n := x * 6 + y) (by rw [q_lit, q_mul, q_add]) (by omega) (by decide), q_w, nI_1] at hX
    have k1 : kq (SW k) s (mx_up s k 15 (x * 6 + y) (vNo (nxr D (h 2) x y))) := kq_up kq_rf ⟨rfl, Or.inr rfl⟩
    obtain ⟨s', e1, e2, e3, e4⟩ := ih (y + 1) _ (by omega) (hx.w k1) (fun a b ha hb => by rw [q_uo (by decide)]; exact hm a b ha hb) (fun a b ha hb q => by
      by_cases c : a = x ∧ b = y
      · rw [c.1, c.2, q_us]
      · rw [q_uj (by omega)]; exact hn a b ha hb (by omega))
    exact ⟨s', hX.trans e1, e2, e3, kq_tr k1 e4⟩
theorem s_meas69 {k : Nat} {h mt lw : Nat → Nat} (hb : HB h) {D : Nat → Nat → Nat} (hD : DS h D) : ∀ (d x : Nat) (s : mx_S), x + d = h 2 → XP k h mt lw s → (∀ a b, a < h 2 → b < h 2 → s k 14 (a * 6 + b) = nI (D a b)) → (∀ a b, a < h 2 → b < h 2 → a < x → s k 15 (a * 6 + b) = vNo (nxr D (h 2) a b)) → ∃ s', mx_H 66 69 [some (mx_R k 13), some (mx_R k 1), some (mx_I (nI x)), none, none, none] s = some (none, s') ∧ (∀ a b, a < h 2 → b < h 2 → s' k 14 (a * 6 + b) = nI (D a b)) ∧ (∀ a b, a < h 2 → b < h 2 → s' k 15 (a * 6 + b) = vNo (nxr D (h 2) a b)) ∧ kq (SW k) s s' := by
  have h2 := hb.r2
  intro d
  induction d with
  | zero =>
    intro x s hd hx hm hn
    have ei : x = h 2 := by omega
    subst ei
    refine ⟨s, ?_, hm, fun a b ha hb => hn a b ha hb ha, kq_rf⟩
    rw [e_W_measure_69, hx.f2, if_pos ((q_leN (by omega) (by omega)).mpr (Nat.le_refl _))]
  | succ d ih =>
    intro x s hd hx hm hn
    obtain ⟨s1, e1, e2, e3, e4⟩ := s_meas76 hb hD (show x < h 2 by omega) (h 2) 0 s (by omega) hx hm (fun a b ha hb q => hn a b ha hb (by omega))
    obtain ⟨s', f1, f2, f3, f4⟩ := ih (x + 1) s1 (by omega) (hx.w e4) e2 e3
    refine ⟨s', ?_, f2, f3, kq_tr e4 f4⟩
    rw [e_W_measure_69, hx.f2, if_neg (by rw [q_leN (by omega) (by omega)]; omega)]
    exact e1.trans f1
/-- X's ways are D -/
def XW (k n : Nat) (D : Nat → Nat → Nat) (s : mx_S) : Prop := (∀ a b, a < n → b < n → s k 14 (a * 6 + b) = nI (D a b)) ∧ (∀ a b, a < n → b < n → s k 15 (a * 6 + b) = vNo (nxr D n a b))
theorem s_measure {k : Nat} {h mt lw : Nat → Nat} (hb : HB h) {s : mx_S} (hx : XP k h mt lw s) : ∃ D s', mx_sem 66 [mx_R k 13, mx_R k 1] s = some (none, s') ∧ DS h D ∧ XW k (h 2) D s' ∧ kq (SW k) s s' := by
  have h2 := hb.r2
  obtain ⟨s1, e1, e2, e3⟩ := s_open hb hx
  obtain ⟨D, s2, f1, f2, f3, f4⟩ := s_flo6 hb (h 2) 0 (Edg h (h 3)) s1 (by omega) (FI_begin hb) (hx.w e3) (fun a b ha hb => e2 a b (by omega) (by omega))
  obtain ⟨s3, g1, g2, g3, g4⟩ := s_meas69 hb f2 (h 2) 0 s2 (by omega) ((hx.w e3).w f4) f3 (fun a b _ _ q => by omega)
  refine ⟨D, s3, ?_, f2, ⟨g2, g3⟩, kq_tr e3 (kq_tr f4 g4)⟩
  rw [e_W_measure, e1, q_bV]
  exact f1.trans g1
