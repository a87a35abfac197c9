/-! ===== X's minute: the aim, entering, waiting, looking ===== -/
def XB (k : Nat) (h : Nat → Nat) (c : Cr) (a : mx_S) : Prop :=
  (a k 16 2 = c 420) ∧ (a k 16 3 = nI (cnt c (-2) (h 6))) ∧ (∀ v, v < h 6 → a k 17 v = nI (gO h v)) ∧ (∀ v, v < h 6 → a k 18 v = c (14 * v)) ∧ (∀ v, v < h 6 → a k 19 v = c (14 * v + 1)) ∧ (∀ v, v < h 6 → a k 20 v = c (14 * v + 2)) ∧ (∀ v, v < h 6 → a k 21 v = c (14 * v + 3)) ∧ (∀ v, v < h 6 → a k 22 v = c (14 * v + 4)) ∧ (∀ v, v < h 6 → a k 26 v = c (14 * v + 5)) ∧ (∀ v p, v < h 6 → p < 8 → a k 24 (v * 8 + p) = c (14 * v + 6 + p)) ∧ (∀ r, r < h 2 → a k 25 r = nI (cnt c (nI r) (h 6)))
theorem XB.mn {k : Nat} {h : Nat → Nat} {c : Cr} {a : mx_S} (x_ : XB k h c a) : a k 16 2 = c 420 := x_.1
theorem XB.ou {k : Nat} {h : Nat → Nat} {c : Cr} {a : mx_S} (x_ : XB k h c a) : a k 16 3 = nI (cnt c (-2) (h 6)) := x_.2.1
theorem XB.gr {k : Nat} {h : Nat → Nat} {c : Cr} {a : mx_S} (x_ : XB k h c a) : ∀ v, v < h 6 → a k 17 v = nI (gO h v) := x_.2.2.1
theorem XB.pl {k : Nat} {h : Nat → Nat} {c : Cr} {a : mx_S} (x_ : XB k h c a) : ∀ v, v < h 6 → a k 18 v = c (14 * v) := x_.2.2.2.1
theorem XB.pa {k : Nat} {h : Nat → Nat} {c : Cr} {a : mx_S} (x_ : XB k h c a) : ∀ v, v < h 6 → a k 19 v = c (14 * v + 1) := x_.2.2.2.2.1
theorem XB.sa {k : Nat} {h : Nat → Nat} {c : Cr} {a : mx_S} (x_ : XB k h c a) : ∀ v, v < h 6 → a k 20 v = c (14 * v + 2) := x_.2.2.2.2.2.1
theorem XB.dn {k : Nat} {h : Nat → Nat} {c : Cr} {a : mx_S} (x_ : XB k h c a) : ∀ v, v < h 6 → a k 21 v = c (14 * v + 3) := x_.2.2.2.2.2.2.1
theorem XB.ms {k : Nat} {h : Nat → Nat} {c : Cr} {a : mx_S} (x_ : XB k h c a) : ∀ v, v < h 6 → a k 22 v = c (14 * v + 4) := x_.2.2.2.2.2.2.2.1
theorem XB.la {k : Nat} {h : Nat → Nat} {c : Cr} {a : mx_S} (x_ : XB k h c a) : ∀ v, v < h 6 → a k 26 v = c (14 * v + 5) := x_.2.2.2.2.2.2.2.2.1
theorem XB.lo {k : Nat} {h : Nat → Nat} {c : Cr} {a : mx_S} (x_ : XB k h c a) : ∀ v p, v < h 6 → p < 8 → a k 24 (v * 8 + p) = c (14 * v + 6 + p) := x_.2.2.2.2.2.2.2.2.2.1
theorem XB.ins {k : Nat} {h : Nat → Nat} {c : Cr} {a : mx_S} (x_ : XB k h c a) : ∀ r, r < h 2 → a k 25 r = nI (cnt c (nI r) (h 6)) := x_.2.2.2.2.2.2.2.2.2.2
def aV (h lw : Nat → Nat) (D : Nat → Nat → Nat) (c : Cr) (v : Nat) : Int32 := if c (14 * v) = -1 ∨ c (14 * v) = -2 then -1 else vNo (aimF h D (lw (gO h v)) (rOf (c (14 * v))) (c (14 * v + 3)))
def XA (k : Nat) (h lw : Nat → Nat) (D : Nat → Nat → Nat) (c : Cr) (a : mx_S) : Prop := ∀ v, v < h 6 → a k 23 v = aV h lw D c v
/-- what one visitor's turn may change -/
def SV (k v k' o j : Nat) : Prop := k' = k ∧ ((o = 16 ∧ j = 3) ∨ o = 25 ∨ o = 27 ∨ ((18 ≤ o ∧ o ≤ 23 ∨ o = 26) ∧ j = v) ∨ (o = 24 ∧ v * 8 ≤ j ∧ j < v * 8 + 8))
theorem cnt_go {c c' : Cr} {x : Int32} {v n : Nat} (hv : v < n) (hc : ∀ i, i < 14 * v ∨ 14 * v + 14 ≤ i → c' i = c i) : cnt c' x n + (if c (14 * v) = x then 1 else 0) = cnt c x n + (if c' (14 * v) = x then 1 else 0) := by
  rw [← cnt_up c x (c' (14 * v)) n hv, cnt_c (c := fup c (14 * v) (c' (14 * v))) (c' := c') n]
  intro w hw
  by_cases e : w = v
  · subst e; rw [fup_s]
  · rw [fup_o (by omega)]; exact hc _ (by omega)
theorem cnt_sm {c c' : Cr} {x : Int32} {v n : Nat} (hv : v < n) (hc : ∀ i, i < 14 * v ∨ 14 * v + 14 ≤ i → c' i = c i) (h0 : c' (14 * v) = c (14 * v)) : cnt c' x n = cnt c x n := by
  have := cnt_go (x := x) hv hc
  rw [h0] at this
  omega
theorem XB.st {k : Nat} {h : Nat → Nat} {c c' : Cr} {a a' : mx_S} {v : Nat} (hb : HB h) (x : XB k h c a) (hv : v < h 6) (hc : ∀ i, i < 14 * v ∨ 14 * v + 14 ≤ i → c' i = c i) (e : kq (SV k v) a a') (s18 : a' k 18 v = c' (14 * v)) (s19 : a' k 19 v = c' (14 * v + 1)) (s20 : a' k 20 v = c' (14 * v + 2)) (s21 : a' k 21 v = c' (14 * v + 3)) (s22 : a' k 22 v = c' (14 * v + 4)) (s26 : a' k 26 v = c' (14 * v + 5)) (s24 : ∀ p, p < 8 → a' k 24 (v * 8 + p) = c' (14 * v + 6 + p)) (so : a' k 16 3 = nI (cnt c' (-2) (h 6))) (si : ∀ r, r < h 2 → a' k 25 r = nI (cnt c' (nI r) (h 6))) : XB k h c' a' := by
  have h6 := hb.r6
  refine ⟨?_, so, fun w hw => ?_, fun w hw => ?_, fun w hw => ?_, fun w hw => ?_, fun w hw => ?_, fun w hw => ?_, fun w hw => ?_, fun w p hw hp => ?_, si⟩
  · rw [e k 16 2 (fun q => by have := q.2; omega), hc 420 (by omega)]; exact x.mn
  · rw [e k 17 w (fun q => by have := q.2; omega)]; exact x.gr w hw
  · by_cases q : w = v
    · subst q; exact s18
    · rw [e k 18 w (fun z => by have := z.2; omega), hc _ (by omega)]; exact x.pl w hw
  · by_cases q : w = v
    · subst q; exact s19
    · rw [e k 19 w (fun z => by have := z.2; omega), hc _ (by omega)]; exact x.pa w hw
  · by_cases q : w = v
    · subst q; exact s20
    · rw [e k 20 w (fun z => by have := z.2; omega), hc _ (by omega)]; exact x.sa w hw
  · by_cases q : w = v
    · subst q; exact s21
    · rw [e k 21 w (fun z => by have := z.2; omega), hc _ (by omega)]; exact x.dn w hw
  · by_cases q : w = v
    · subst q; exact s22
    · rw [e k 22 w (fun z => by have := z.2; omega), hc _ (by omega)]; exact x.ms w hw
  · by_cases q : w = v
    · subst q; exact s26
    · rw [e k 26 w (fun z => by have := z.2; omega), hc _ (by omega)]; exact x.la w hw
  · by_cases q : w = v
    · subst q; exact s24 p hp
    · rw [e k 24 _ (fun z => by have := z.2; omega), hc _ (by omega)]; exact x.lo w p hw hp
theorem XA.st {k : Nat} {h lw : Nat → Nat} {D : Nat → Nat → Nat} {c c' : Cr} {a a' : mx_S} {v : Nat} (x : XA k h lw D c a) (hc : ∀ i, i < 14 * v ∨ 14 * v + 14 ≤ i → c' i = c i) (e : kq (SV k v) a a') (s23 : a' k 23 v = aV h lw D c' v) : XA k h lw D c' a' := by
  intro w hw
  by_cases q : w = v
  · subst q; exact s23
  · rw [e k 23 w (fun z => by have := z.2; omega), x w hw]
    unfold aV
    rw [hc _ (by omega), hc _ (by omega)]
theorem XP.v {k v : Nat} {h mt lw : Nat → Nat} {a a' : mx_S} (x : XP k h mt lw a) (e : kq (SV k v) a a') : XP k h mt lw a' := x.k (fun o j h1 h2 => e k o j (fun q => by have := q.2; omega))
theorem XW.v {k n v : Nat} {D : Nat → Nat → Nat} {a a' : mx_S} (x : XW k n D a) (e : kq (SV k v) a a') : XW k n D a' := ⟨fun y z hy hz => by rw [e k 14 _ (fun q => by have := q.2; omega)]; exact x.1 y z hy hz, fun y z hy hz => by rw [e k 15 _ (fun q => by have := q.2; omega)]; exact x.2 y z hy hz⟩
/-! the aim -/
theorem s_choose16 {k : Nat} {h mt lw : Nat → Nat} (hb : HB h) {D : Nat → Nat → Nat} (hD : DS h D) {s : mx_S} (hx : XP k h mt lw s) (hw : XW k (h 2) D s) {v r l : Nat} {dn : Int32} (hv : v < 30) (hr : r < h 2) (hl : l ≤ 2) (h1 : s k 18 v = nI r) (h2 : s k 21 v = dn) : ∀ (d p best : Nat) (most : Int32), p + d = h 4 → (best = 1000 ∨ best < p) → mx_H 20 16 [some (mx_R k 16), some (mx_I (nI v)), some (mx_I (nI l)), some (mx_I (vNo best)), some (mx_I most), some (mx_I (nI p)), none, none] s = some (some (mx_I (vNo (aimR h D l r dn d p best most))), s) := by
  have h4 := hb.r4
  have r2 := hb.r2
  have vn : ∀ {y : Nat}, y < 1000 → vNo y = nI y := fun {y} q => if_neg (by omega)
  have vm : ∀ {y : Nat}, y ≤ 1000 → (vNo y = -1 ↔ y = 1000) := fun {y} q => by
    constructor
    · intro z
      refine Classical.byContradiction fun n => ?_
      rw [vn (by omega)] at z
      exact nI_m1 (by omega) z
    · intro z; rw [z]; rfl
  intro d
  induction d with
  | zero =>
    intro p best most hp hbst
    rw [e_C_chooseAim_16, hx.f8, if_pos ((q_leN (by omega) (by omega)).mpr (by omega))]
    rfl
  | succ d ih =>
    intro p best most hp hbst
    have pc := (hb.pc p (by omega)).1
    have xp := hx.pc p (by omega)
    have l1 := (hD r _ hr pc).1
    have hX := e_C_chooseAim_16 k (nI v) (nI l) (vNo best) most (nI p) s
    rw [hx.f8, if_neg (by rw [q_leN (by omega) (by omega)]; omega), q_g hv (by decide), q_g (show p < 8 by omega) (by decide), h1, xp.1, q_gx (n := r * 6 + h (40 + 2 * p)) (by rw [q_lit, q_mul, q_add]) (by omega) (by decide), hw.1 _ _ hr pc, nI_1, q_g hv (by decide), h2] at hX
    refine hX.trans ?_
    clear hX
    have a2 := ih (p + 1) best most (by omega) (by omega)
    unfold aimR
    by_cases c1 : D r (h (40 + 2 * p)) = 1000
    · have co : ¬ opn h D r dn p = true := by
        unfold opn
        rw [decide_eq_false (p := D r (h (40 + 2 * p)) ≠ 1000) (fun q => q c1)]
        simp
      rw [if_pos (by rw [c1]; rfl), if_neg co]
      exact a2
    · rw [if_neg (by rw [q_lit, q_eqN (by omega) (by decide)]; exact c1)]
      rcases bit01 (dn >>> (nI p &&& 31)) with c2 | c2
      · have co : opn h D r dn p = true := by
          unfold opn
          rw [decide_eq_true c2, decide_eq_true c1]
          rfl
        rw [c2, if_neg (by decide), if_pos co]
        have a1 := ih (p + 1) p (wor h D r p) (by omega) (Or.inr (by omega))
        rw [vn (show p < 1000 by omega)] at a1
        by_cases k2 : l = 2
        · subst k2
          rw [if_pos (by decide), if_pos (Or.inl rfl), vn (by omega)]
        · rw [if_neg (by rw [q_lit, q_eqN (by omega) (by decide)]; exact k2), q_g (show p < 8 by omega) (by decide), xp.2.1, show nI (h (41 + 2 * p)) - 5 * nI (D r (h (40 + 2 * p))) = wor h D r p from rfl]
          have hrest : (if vNo best = -1 then mx_H 20 16 [some (mx_R k 16), some (mx_I (nI v)), some (mx_I (nI l)), some (mx_I (nI p)), some (mx_I (wor h D r p)), some (mx_I (nI (p + 1))), none, none] s else if wor h D r p ≤ most then mx_H 20 16 [some (mx_R k 16), some (mx_I (nI v)), some (mx_I (nI l)), some (mx_I (vNo best)), some (mx_I most), some (mx_I (nI (p + 1))), none, none] s else mx_H 20 16 [some (mx_R k 16), some (mx_I (nI v)), some (mx_I (nI l)), some (mx_I (nI p)), some (mx_I (wor h D r p)), some (mx_I (nI (p + 1))), none, none] s) = some (some (mx_I (vNo (if best = 1000 ∨ ¬wor h D r p ≤ most then aimR h D l r dn d (p + 1) p (wor h D r p) else aimR h D l r dn d (p + 1) best most))), s) := by
            by_cases q1 : best = 1000
            · rw [if_pos ((vm (by omega)).mpr q1), if_pos (Or.inl q1)]; exact a1
            · rw [if_neg (fun q => q1 ((vm (by omega)).mp q))]
              by_cases q2 : wor h D r p ≤ most
              · rw [if_pos q2, if_neg (by rintro (q | q); exact q1 q; exact q q2)]; exact a2
              · rw [if_neg q2, if_pos (Or.inr q2)]; exact a1
          by_cases k0 : l = 0
          · subst k0
            rw [if_pos (by decide)]
            by_cases p0 : p = 0
            · subst p0
              rw [if_pos (by decide), if_pos (Or.inr ⟨rfl, rfl⟩)]; rfl
            · rw [if_neg (by rw [q_lit, q_eqN (by omega) (by decide)]; exact p0), if_neg (show ¬ (0 = 2 ∨ 0 = 0 ∧ p = 0) by omega)]
              exact hrest
          · rw [if_neg (by rw [q_lit, q_eqN (by omega) (by decide)]; exact k0), if_neg (show ¬ (l = 2 ∨ l = 0 ∧ p = 0) by omega)]
            exact hrest
      · have co : ¬ opn h D r dn p = true := by
          unfold opn
          rw [decide_eq_false (p := dn >>> (nI p &&& 31) &&& 1 = 0) (fun q => by rw [c2] at q; exact absurd q (by decide))]
          simp
        rw [c2, if_pos rfl, if_neg co]
        exact a2
theorem s_choose {k : Nat} {h mt lw : Nat → Nat} (hb : HB h) {D : Nat → Nat → Nat} (hD : DS h D) {s : mx_S} (hx : XP k h mt lw s) (hw : XW k (h 2) D s) (hl : ∀ g, g < h 5 → lw g ≤ 2) {v r : Nat} {dn : Int32} (hv : v < h 6) (hr : r < h 2) (h0 : s k 17 v = nI (gO h v)) (h1 : s k 18 v = nI r) (h2 : s k 21 v = dn) : mx_sem 20 [mx_R k 16, mx_I (nI v)] s = some (some (mx_I (vNo (aimF h D (lw (gO h v)) r dn))), s) := by
  have h6 := hb.r6
  have h5 := hb.r5
  have g := (gO_ok hb hv).1
  rw [e_C_chooseAim, q_g (show v < 30 by omega) (by decide), h0, q_g (by omega) (by decide), (hx.gr _ g).2.2.1]
  exact s_choose16 hb hD hx hw (show v < 30 by omega) hr (hl _ g) h1 h2 (h 4) 0 1000 0 (by omega) (Or.inl rfl)
/-! entering -/
theorem s_xenter {k : Nat} {h mt lw : Nat → Nat} (hb : HB h) {D : Nat → Nat → Nat} (hD : DS h D) {s : mx_S} {c : Cr} (hx : XP k h mt lw s) (hw : XW k (h 2) D s) (hl : ∀ g, g < h 5 → lw g ≤ 2) (x : XB k h c s) {v r : Nat} (hv : v < h 6) (hr : r < h 2) : mx_sem 22 [mx_R k 16, mx_I (nI v), mx_I (nI r)] s = if cnt c (nI r) (h 6) < h (7 + r) then some (some (mx_I 1), mx_up (mx_up (mx_up s k 25 r (nI (cnt c (nI r) (h 6) + 1))) k 18 v (nI r)) k 23 v (vNo (aimF h D (lw (gO h v)) r (c (14 * v + 3))))) else some (some (mx_I 0), s) := by
  have h6 := hb.r6
  have h2 := hb.r2
  have h7 := (hb.rm r hr).2
  have l := cnt_le c (nI r) (h 6)
  have hX := e_C_enter k (nI v) (nI r) s
  rw [hx.f2, s_below2 (nI r) (nI (h 2)) (h 2) (q_toI (by omega)) (by rw [q_toI (by omega)]; omega) (by rw [q_toI (by omega)]; omega), q_bI, if_neg (by decide), q_g (show r < 6 by omega) (by decide), q_g (show r < 6 by omega) (by decide), x.ins r hr, hx.rm r hr] at hX
  by_cases q : cnt c (nI r) (h 6) < h (7 + r)
  · rw [if_pos ((q_ltN (by omega) (by omega)).mpr q), q_g (show r < 6 by omega) (by decide), q_g (show r < 6 by omega) (by decide), q_w, q_g (show v < 30 by omega) (by decide), q_w, x.ins r hr, nI_1] at hX
    have k1 : kq (SV k v) s (mx_up (mx_up s k 25 r (nI (cnt c (nI r) (h 6) + 1))) k 18 v (nI r)) := kq_up (kq_up kq_rf ⟨rfl, by omega⟩) ⟨rfl, by omega⟩
    rw [s_choose (dn := c (14 * v + 3)) hb hD (hx.v k1) (hw.v k1) hl hv hr (by rw [q_uo (by decide), q_uo (by decide)]; exact x.gr v hv) q_us (by rw [q_uo (by decide), q_uo (by decide)]; exact x.dn v hv), q_bI, q_g (show v < 30 by omega) (by decide), q_w] at hX
    rw [if_pos q]
    exact hX
  · rw [if_neg (by rw [q_ltN (by omega) (by omega)]; exact q)] at hX
    rw [if_neg q]
    exact hX
/-! waiting -/
def SVw (k v k' o j : Nat) : Prop := k' = k ∧ ((o = 16 ∧ j = 3) ∨ ((o = 18 ∨ o = 19 ∨ o = 21 ∨ o = 22 ∨ o = 26) ∧ j = v))
theorem SVw_V {k v : Nat} {a a' : mx_S} (e : kq (SVw k v) a a') : kq (SV k v) a a' := kq_mono e (fun k' o j q => ⟨q.1, by have := q.2; omega⟩)
theorem s_xwait {k : Nat} {h : Nat → Nat} (hb : HB h) {s : mx_S} {c : Cr} (x : XB k h c s) {v aim : Nat} (hv : v < h 6) (ha : s k 23 v = vNo aim) (hc : (c (14 * v) = -1 ∧ aim = 1000) ∨ (aim < 8 ∧ c (14 * v) ≠ -1)) : ∃ s', mx_sem 24 [mx_R k 16, mx_I (nI v)] s = some (none, s') ∧ XB k h (waitC c v aim) s' ∧ kq (SVw k v) s s' := by
  have h6 := hb.r6
  have hX := e_C_waitOn k (nI v) s
  have hv30 : v < 30 := by omega
  have o1 : fup c (14 * v + 5) 3 (14 * v + 1) = c (14 * v + 1) := fup_o (by omega)
  rw [q_g hv30 (by decide), q_w, q_g hv30 (by decide), q_uo (show 19 ≠ 26 by decide), x.pa v hv] at hX
  have out : ∀ i, i < 14 * v ∨ 14 * v + 14 ≤ i → waitC c v aim i = c i := fun i hi => waitC_o c hi
  unfold waitC at out ⊢
  rw [o1] at out ⊢
  by_cases q : c (14 * v + 1) ≤ 0
  · rw [if_pos q, q_g hv30 (by decide), q_uo (show 18 ≠ 26 by decide), x.pl v hv] at hX
    rw [if_pos q] at out ⊢
    rcases hc with ⟨hc, ha2⟩ | ⟨ha2, hc⟩
    · rw [if_pos ha2] at out ⊢
      rw [if_pos hc, e_C_leave, q_g hv30 (by decide), q_w, q_w, q_bV, q_uo (show 16 ≠ 18 by decide), q_uo (show 16 ≠ 26 by decide), x.ou, nI_1] at hX
      have cg : ∀ z : Int32, _ := fun z => cnt_go (x := z) hv out
      refine ⟨_, hX, x.st hb hv out (SVw_V (kq_up (kq_up (kq_up kq_rf ⟨rfl, by omega⟩) ⟨rfl, by omega⟩) ⟨rfl, by omega⟩)) ?_ ?_ ?_ ?_ ?_ ?_ (fun p hp => ?_) ?_ (fun r hr => ?_), kq_up (kq_up (kq_up kq_rf ⟨rfl, by omega⟩) ⟨rfl, by omega⟩) ⟨rfl, by omega⟩⟩
      · rw [fup_s, q_uo (by decide), q_us]
      · rw [fup_o (by omega), fup_o (by omega), q_uo (by decide), q_uo (by decide), q_uo (by decide)]; exact x.pa v hv
      · rw [fup_o (by omega), fup_o (by omega), q_uo (by decide), q_uo (by decide), q_uo (by decide)]; exact x.sa v hv
      · rw [fup_o (by omega), fup_o (by omega), q_uo (by decide), q_uo (by decide), q_uo (by decide)]; exact x.dn v hv
      · rw [fup_o (by omega), fup_o (by omega), q_uo (by decide), q_uo (by decide), q_uo (by decide)]; exact x.ms v hv
      · rw [fup_o (by omega), fup_s, q_uo (by decide), q_uo (by decide), q_us]
      · rw [fup_o (by omega), fup_o (by omega), q_uo (by decide), q_uo (by decide), q_uo (by decide)]; exact x.lo v p hv hp
      · rw [q_us]
        congr 1
        have := cg (-2)
        rw [hc, if_neg (by decide), fup_s, if_pos rfl] at this
        omega
      · rw [q_uo (by decide), q_uo (by decide), q_uo (by decide), x.ins r hr]
        congr 1
        have h2 := hb.r2
        have := cg (nI r)
        rw [hc, if_neg (fun z => nI_m1 (show r < 2147483648 by omega) z.symm), fup_s, if_neg (fun z => nI_m2 (show r < 2147483648 by omega) z.symm)] at this
        omega
    · rw [if_neg (show ¬ aim = 1000 by omega)] at out ⊢
      have va : vNo aim = nI aim := if_neg (by omega)
      rw [if_neg hc, q_g hv30 (by decide), q_uo (show 23 ≠ 26 by decide), ha, va, if_neg (nI_m1 (by omega)), q_g hv30 (by decide), q_g hv30 (by decide), q_g hv30 (by decide), q_w, q_g hv30 (by decide), q_g hv30 (by decide), q_g hv30 (by decide), q_w, q_uo (show 22 ≠ 26 by decide), x.ms v hv, ha, va, q_uo (show 21 ≠ 22 by decide), q_uo (show 21 ≠ 26 by decide), x.dn v hv, q_uo (show 23 ≠ 22 by decide), q_uo (show 23 ≠ 26 by decide), ha, va, show (1 : Int32) <<< (nI aim &&& 31) = bitI aim from rfl] at hX
      have c0 : fup (fup (fup c (14 * v + 5) 3) (14 * v + 3) (c (14 * v + 3) ||| bitI aim)) (14 * v + 4) (c (14 * v + 4) ||| bitI aim) (14 * v) = c (14 * v) := by rw [fup_o (by omega), fup_o (by omega), fup_o (by omega)]
      refine ⟨_, hX, x.st hb hv out (SVw_V (kq_up (kq_up (kq_up kq_rf ⟨rfl, by omega⟩) ⟨rfl, by omega⟩) ⟨rfl, by omega⟩)) ?_ ?_ ?_ ?_ ?_ ?_ (fun p hp => ?_) ?_ (fun r hr => ?_), kq_up (kq_up (kq_up kq_rf ⟨rfl, by omega⟩) ⟨rfl, by omega⟩) ⟨rfl, by omega⟩⟩
      · rw [c0, q_uo (by decide), q_uo (by decide), q_uo (by decide)]; exact x.pl v hv
      · rw [fup_o (by omega), fup_o (by omega), fup_o (by omega), q_uo (by decide), q_uo (by decide), q_uo (by decide)]; exact x.pa v hv
      · rw [fup_o (by omega), fup_o (by omega), fup_o (by omega), q_uo (by decide), q_uo (by decide), q_uo (by decide)]; exact x.sa v hv
      · rw [fup_o (by omega), fup_s, q_us]
      · rw [fup_s, q_uo (by decide), q_us]
      · rw [fup_o (by omega), fup_o (by omega), fup_s, q_uo (by decide), q_uo (by decide), q_us]
      · rw [fup_o (by omega), fup_o (by omega), fup_o (by omega), q_uo (by decide), q_uo (by decide), q_uo (by decide)]; exact x.lo v p hv hp
      · rw [q_uo (by decide), q_uo (by decide), q_uo (by decide), cnt_sm hv out c0]; exact x.ou
      · rw [q_uo (by decide), q_uo (by decide), q_uo (by decide), cnt_sm hv out c0]; exact x.ins r hr
  · rw [if_neg q, q_g hv30 (by decide), q_g hv30 (by decide), q_w, x.pa v hv] at hX
    rw [if_neg q] at out ⊢
    have c0 : fup (fup c (14 * v + 5) 3) (14 * v + 1) (c (14 * v + 1) - 1) (14 * v) = c (14 * v) := by rw [fup_o (by omega), fup_o (by omega)]
    refine ⟨_, hX, x.st hb hv out (SVw_V (kq_up (kq_up kq_rf ⟨rfl, by omega⟩) ⟨rfl, by omega⟩)) ?_ ?_ ?_ ?_ ?_ ?_ (fun p hp => ?_) ?_ (fun r hr => ?_), kq_up (kq_up kq_rf ⟨rfl, by omega⟩) ⟨rfl, by omega⟩⟩
    · rw [c0, q_uo (by decide), q_uo (by decide)]; exact x.pl v hv
    · rw [fup_s, q_us]
    · rw [fup_o (by omega), fup_o (by omega), q_uo (by decide), q_uo (by decide)]; exact x.sa v hv
    · rw [fup_o (by omega), fup_o (by omega), q_uo (by decide), q_uo (by decide)]; exact x.dn v hv
    · rw [fup_o (by omega), fup_o (by omega), q_uo (by decide), q_uo (by decide)]; exact x.ms v hv
    · rw [fup_o (by omega), fup_s, q_uo (by decide), q_us]
    · rw [fup_o (by omega), fup_o (by omega), q_uo (by decide), q_uo (by decide)]; exact x.lo v p hv hp
    · rw [q_uo (by decide), q_uo (by decide), cnt_sm hv out c0]; exact x.ou
    · rw [q_uo (by decide), q_uo (by decide), cnt_sm hv out c0]; exact x.ins r hr
