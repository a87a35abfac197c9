/-! ===== the beginning of a day ===== -/
def c0 (h : Nat → Nat) (dn : Int32) : Nat → Cr
  | 0 => fun _ => 0
  | v + 1 => fup (fup (fup (c0 h dn v) (14 * v) (-1)) (14 * v + 1) (nI (h (59 + 4 * gO h v)))) (14 * v + 3) dn
theorem c0_hi (h : Nat → Nat) (dn : Int32) : ∀ n i, 14 * n ≤ i → c0 h dn n i = 0
  | 0, i, _ => rfl
  | n + 1, i, hi => by
    unfold c0
    rw [fup_o (by omega), fup_o (by omega), fup_o (by omega)]
    exact c0_hi h dn n i (by omega)
def c0v (h : Nat → Nat) (dn : Int32) (v j : Nat) : Int32 := if j = 0 then -1 else if j = 1 then nI (h (59 + 4 * gO h v)) else if j = 3 then dn else 0
theorem c0_at (h : Nat → Nat) (dn : Int32) : ∀ n v j, v < n → j < 14 → c0 h dn n (14 * v + j) = c0v h dn v j
  | 0, v, j, hv, _ => by omega
  | n + 1, v, j, hv, hj => by
    unfold c0
    by_cases e : v = n
    · subst e
      unfold c0v
      by_cases j3 : j = 3
      · subst j3; rw [fup_s, if_neg (by decide), if_neg (by decide), if_pos rfl]
      · rw [fup_o (by omega)]
        by_cases j1 : j = 1
        · subst j1; rw [fup_s, if_neg (by decide), if_pos rfl]
        · rw [fup_o (by omega)]
          by_cases j0 : j = 0
          · subst j0; rw [show 14 * v + 0 = 14 * v from rfl, fup_s, if_pos rfl]
          · rw [fup_o (by omega), if_neg j0, if_neg j1, if_neg j3]
            exact c0_hi h dn v _ (by omega)
    · rw [fup_o (by omega), fup_o (by omega), fup_o (by omega)]
      exact c0_at h dn n v j (by omega) hj
theorem c0_pl (h : Nat → Nat) (dn : Int32) {n v : Nat} (hv : v < n) : c0 h dn n (14 * v) = -1 := c0_at h dn n v 0 hv (by decide)
theorem CB.c0 {h : Nat → Nat} (dn : Int32) : CB h (c0 h dn (h 6)) := ⟨fun v hv => Or.inl (c0_pl h dn hv), fun v hv => ⟨0, by decide, c0_at h dn (h 6) v 4 hv (by decide)⟩⟩
theorem cnt_no {c : Cr} {x : Int32} : ∀ n, (∀ v, v < n → c (14 * v) ≠ x) → cnt c x n = 0
  | 0, _ => rfl
  | n + 1, h => by
    unfold cnt
    rw [cnt_no n (fun v hv => h v (by omega)), if_neg (h n (by omega))]
/-! M -/
def DN (dn : Int32) (b : mx_S) : Prop := (0 ≤ b 0 39 23 ∧ dn = (1 : Int32) <<< (b 0 39 23 &&& 31)) ∨ (¬ 0 ≤ b 0 39 23 ∧ dn = 0)
theorem s_opens15 {h : Nat → Nat} (hb : HB h) {kk : Nat} {dn : Int32} : ∀ (d v : Nat) (b : mx_S), v + d = h 6 → MH 43 h b → DN dn b → MC kk (c0 h dn v) b → ∃ b', mx_H 134 15 [some (mx_R 0 39), some (mx_R kk 45), some (mx_I (nI v))] b = some (none, b') ∧ MC kk (c0 h dn (h 6)) b' ∧ kq (S45 kk) b b' := by
  have h6 := hb.r6
  intro d
  induction d with
  | zero =>
    intro v b hd hm hdn hc
    have ev : v = h 6 := by omega
    subst ev
    refine ⟨b, ?_, hc, kq_rf⟩
    rw [e_M_opens_15, q_gl (by decide) (by decide), hm 6 (by decide), if_pos ((q_leN (by omega) (by omega)).mpr (Nat.le_refl _))]
  | succ d ih =>
    intro v b hd hm hdn hc
    have hv30 : v < 30 := by omega
    have k1 : kq (S45 kk) b (mx_up b kk 45 (14 * v) (-1)) := kq_up kq_rf ⟨rfl, rfl⟩
    have m1 : MH 43 h (mx_up b kk 45 (14 * v) (-1)) := hm.k (fun j => by rw [q_uo (by decide)])
    have hX := e_M_opens_15 kk (nI v) b
    rw [q_gl (by decide) (by decide), hm 6 (by decide), if_neg (by rw [q_leN (by omega) (by omega)]; omega), g14 (i := 0) hv30 (by decide) (by rfl), show 14 * v + 0 = 14 * v from rfl, q_w, s_told hb m1 (show v < h 6 by omega) (w := 3) (by decide) (by rfl), q_bI, g14 (i := 1) hv30 (by decide) (by rfl), q_w, q_uo (show 39 ≠ 45 by decide), q_uo (show 39 ≠ 45 by decide), show 56 + 4 * gO h v + 3 = 59 + 4 * gO h v by omega, nI_1, g14 (i := 3) hv30 (by decide) (by rfl), q_w, g14 (i := 3) hv30 (by decide) (by rfl), q_w] at hX
    have c3 : MC kk (c0 h dn (v + 1)) (mx_up (mx_up (mx_up b kk 45 (14 * v) (-1)) kk 45 (14 * v + 1) (nI (h (59 + 4 * gO h v)))) kk 45 (14 * v + 3) dn) := ((hc.up _ _).up _ _).up _ _
    have k3 : kq (S45 kk) b (mx_up (mx_up (mx_up b kk 45 (14 * v) (-1)) kk 45 (14 * v + 1) (nI (h (59 + 4 * gO h v)))) kk 45 (14 * v + 3) dn) := kq_up (kq_up k1 ⟨rfl, rfl⟩) ⟨rfl, rfl⟩
    obtain ⟨b', g1, g2, g3⟩ := ih (v + 1) _ (by omega) (hm.k (fun j => k3 0 43 j (fun q => by have := q.2; omega))) (by
      unfold DN
      rw [k3 0 39 23 (fun q => by have := q.2; omega)]; exact hdn) c3
    refine ⟨b', ?_, g2, kq_tr k3 g3⟩
    rw [hX, ← g1]
    rcases hdn with ⟨d1, d2⟩ | ⟨d1, d2⟩
    · rw [if_pos d1, ← d2]
    · rw [if_neg d1, ← d2]
theorem s_opens3 {kk : Nat} : ∀ (d p : Nat) (b : mx_S), p + d = 421 → mx_H 134 3 [some (mx_R 0 39), some (mx_R kk 45), some (mx_I (nI p))] b = mx_H 134 15 [some (mx_R 0 39), some (mx_R kk 45), some (mx_I (nI 0))] (mx_fl b kk 45 p 421 0) := by
  intro d
  induction d with
  | zero =>
    intro p b hd
    have e : p = 421 := by omega
    subst e
    rw [e_M_opens_3, if_pos (by decide)]
    congr 1
    funext k' o' j'
    rw [q_fl, if_neg (by omega)]
  | succ d ih =>
    intro p b hd
    rw [e_M_opens_3, if_neg (by rw [q_lit, q_leN (by decide) (by omega)]; omega), q_g (by omega) (by decide), q_w, nI_1, ih (p + 1) _ (by omega)]
    congr 1
    funext k' o' j'
    rw [q_fl, q_fl, q_up]
    split <;> split <;> (try split) <;> first | rfl | (exfalso; omega)
theorem s_opens {h : Nat → Nat} (hb : HB h) {kk : Nat} {dn : Int32} {b : mx_S} (hm : MH 43 h b) (hdn : DN dn b) : ∃ b', mx_sem 134 [mx_R 0 39, mx_R kk 45] b = some (none, b') ∧ MC kk (c0 h dn (h 6)) b' ∧ kq (S45 kk) b b' := by
  have k1 : kq (S45 kk) b (mx_fl b kk 45 0 421 0) := kq_fl kq_rf (fun j => ⟨rfl, rfl⟩)
  obtain ⟨b', g1, g2, g3⟩ := s_opens15 hb (kk := kk) (dn := dn) (h 6) 0 (mx_fl b kk 45 0 421 0) (by omega) (hm.k (fun j => by rw [q_flo (by decide)])) (by
    unfold DN
    rw [q_flo (by decide)]; exact hdn) (fun i hi => by rw [q_fl, if_pos ⟨rfl, rfl, by omega, hi⟩]; rfl)
  refine ⟨b', ?_, g2, kq_tr k1 g3⟩
  rw [e_M_opens, show mx_I 0 = mx_I (nI 0) from rfl, s_opens3 421 0 b (by omega)]
  exact g1
/-! X -/
def SXb (k k' o j : Nat) : Prop := k' = k ∧ ((o = 16 ∧ (j = 2 ∨ j = 3)) ∨ (17 ≤ o ∧ o ≤ 27))
theorem SX_b {k : Nat} {a a' : mx_S} (e : kq (SX k) a a') : kq (SXb k) a a' := kq_mono e (fun k' o j q => ⟨q.1, by have := q.2; omega⟩)
theorem XP.b {k : Nat} {h mt lw : Nat → Nat} {a a' : mx_S} (x : XP k h mt lw a) (e : kq (SXb k) a a') : XP k h mt lw a' := x.k (fun o j h1 h2 => e k o j (fun q => by have := q.2; omega))
theorem XW.b {k n : Nat} {D : Nat → Nat → Nat} {a a' : mx_S} (x : XW k n D a) (e : kq (SXb k) a a') : XW k n D a' := ⟨fun y z hy hz => by rw [e k 14 _ (fun q => by have := q.2; omega)]; exact x.1 y z hy hz, fun y z hy hz => by rw [e k 15 _ (fun q => by have := q.2; omega)]; exact x.2 y z hy hz⟩
def Bgi (k : Nat) (h : Nat → Nat) (v : Nat) (s : mx_S) : Prop := ∀ w, w < v → s k 17 w = nI (gO h w) ∧ s k 19 w = nI (h (59 + 4 * gO h w))
def SG (k k' o _j : Nat) : Prop := k' = k ∧ (o = 17 ∨ o = 19)
theorem SG_b {k : Nat} {a a' : mx_S} (e : kq (SG k) a a') : kq (SXb k) a a' := kq_mono e (fun k' o j q => ⟨q.1, by have := q.2; omega⟩)
theorem s_beg19 {k : Nat} {h mt lw : Nat → Nat} (hb : HB h) {dn : Int32} {g : Nat} (hg : g < h 5) : ∀ (d i : Nat) (s : mx_S), i + d = h (56 + 4 * g) → XP k h mt lw s → Bgi k h (sm h g + i) s → ∃ s', mx_H 19 19 [some (mx_R k 16), some (mx_I dn), some (mx_I (nI (sm h g + i))), some (mx_I (nI g)), some (mx_I (nI i))] s = mx_H 19 11 [some (mx_R k 16), some (mx_I dn), some (mx_I (nI (sm h (g + 1)))), some (mx_I (nI (g + 1))), none] s' ∧ Bgi k h (sm h (g + 1)) s' ∧ kq (SG k) s s' := by
  have h5 := hb.r5
  have h6 := hb.r6
  have gr := hb.gr g hg
  have s1 : sm h (g + 1) = sm h g + h (56 + 4 * g) := rfl
  have s2 := sm_mono h (h 5) (g + 1) (by omega)
  have s3 := hb.su
  intro d
  induction d with
  | zero =>
    intro i s hd hx hB
    have ei : i = h (56 + 4 * g) := by omega
    subst ei
    refine ⟨s, ?_, by rw [s1]; exact hB, kq_rf⟩
    rw [e_C_begin_19, q_g (show g < 6 by omega) (by decide), (hx.gr g hg).1, if_pos ((q_leN (by omega) (by omega)).mpr (Nat.le_refl _)), nI_1, s1]
  | succ d ih =>
    intro i s hd hx hB
    have k1 : kq (SG k) s (mx_up (mx_up s k 17 (sm h g + i) (nI g)) k 19 (sm h g + i) (nI (h (59 + 4 * g)))) := kq_up (kq_up kq_rf ⟨rfl, Or.inl rfl⟩) ⟨rfl, Or.inr rfl⟩
    have eg : gO h (sm h g + i) = g := gO_is hb (by omega) (by omega) (by omega)
    have hX := e_C_begin_19 k dn (nI (sm h g + i)) (nI g) (nI i) s
    rw [q_g (show g < 6 by omega) (by decide), (hx.gr g hg).1, if_neg (by rw [q_leN (by omega) (by omega)]; omega), if_neg (by rw [q_lit, q_leN (by decide) (by omega)]; omega), q_g (show sm h g + i < 30 by omega) (by decide), q_w, q_g (show g < 6 by omega) (by decide), q_g (show sm h g + i < 30 by omega) (by decide), q_uo (show 12 ≠ 17 by decide), (hx.gr g hg).2.2.2, q_w, nI_1, nI_1] at hX
    obtain ⟨s', f1, f2, f3⟩ := ih (i + 1) _ (by omega) (hx.b (SG_b k1)) (fun w hw => by
      by_cases e : w = sm h g + i
      · subst e
        rw [eg, q_uo (by decide), q_us, q_us]; exact ⟨rfl, rfl⟩
      · rw [q_uo (by decide), q_uj e, q_uj e, q_uo (by decide)]; exact hB w (by omega))
    exact ⟨s', hX.trans f1, f2, kq_tr k1 f3⟩
theorem s_beg11 {k : Nat} {h mt lw : Nat → Nat} (hb : HB h) {dn : Int32} : ∀ (d g : Nat) (s : mx_S), g + d = h 5 → XP k h mt lw s → Bgi k h (sm h g) s → ∃ s', mx_H 19 11 [some (mx_R k 16), some (mx_I dn), some (mx_I (nI (sm h g))), some (mx_I (nI g)), none] s = some (none, mx_fl (mx_fl (mx_fl (mx_fl (mx_fl (mx_fl (mx_fl (mx_fl s' k 18 0 30 (-1)) k 20 0 30 0) k 21 0 30 dn) k 22 0 30 0) k 23 0 30 (-1)) k 24 0 240 0) k 25 0 6 0) k 26 0 30 0) ∧ Bgi k h (h 6) s' ∧ kq (SG k) s s' := by
  have h5 := hb.r5
  intro d
  induction d with
  | zero =>
    intro g s hd hx hB
    have eg : g = h 5 := by omega
    subst eg
    refine ⟨s, ?_, by rw [hb.su]; exact hB, kq_rf⟩
    rw [e_C_begin_11, hx.f12, if_pos ((q_leN (by omega) (by omega)).mpr (Nat.le_refl _)), s_fill k 18 _ _ (by decide) (by decide) (by decide), q_bV, s_fill k 20 _ _ (by decide) (by decide) (by decide), q_bV, s_fill k 21 _ _ (by decide) (by decide) (by decide), q_bV, s_fill k 22 _ _ (by decide) (by decide) (by decide), q_bV, s_fill k 23 _ _ (by decide) (by decide) (by decide), q_bV, s_fill k 24 _ _ (by decide) (by decide) (by decide), q_bV, s_fill k 25 _ _ (by decide) (by decide) (by decide), q_bV, s_fill k 26 _ _ (by decide) (by decide) (by decide), q_bV]
    rfl
  | succ d ih =>
    intro g s hd hx hB
    obtain ⟨s1, f1, f2, f3⟩ := s_beg19 hb (dn := dn) (show g < h 5 by omega) (h (56 + 4 * g)) 0 s (by omega) hx hB
    obtain ⟨s', g1, g2, g3⟩ := ih (g + 1) s1 (by omega) (hx.b (SG_b f3)) f2
    refine ⟨s', ?_, g2, kq_tr f3 g3⟩
    rw [e_C_begin_11, hx.f12, if_neg (by rw [q_leN (by omega) (by omega)]; omega)]
    exact f1.trans g1
theorem s_begin {k : Nat} {h mt lw : Nat → Nat} (hb : HB h) (D : Nat → Nat → Nat) (lw2 : Nat → Nat) {dn : Int32} {a : mx_S} (hx : XP k h mt lw a) : ∃ a', mx_sem 19 [mx_R k 16, mx_I dn] a = some (none, a') ∧ XB k h (c0 h dn (h 6)) a' ∧ XA k h lw2 D (c0 h dn (h 6)) a' ∧ kq (SXb k) a a' := by
  have h6 := hb.r6
  have h2 := hb.r2
  have k1 : kq (SXb k) a (mx_up (mx_up a k 16 2 0) k 16 3 0) := kq_up (kq_up kq_rf ⟨rfl, by omega⟩) ⟨rfl, by omega⟩
  obtain ⟨s, g1, g2, g3⟩ := s_beg11 hb (dn := dn) (h 5) 0 (mx_up (mx_up a k 16 2 0) k 16 3 0) (by omega) (hx.b k1) (fun w hw => by
    have : w < 0 := hw
    omega)
  have m2 : s k 16 2 = 0 := by rw [g3 k 16 2 (fun q => by have := q.2; omega), q_uj (by decide), q_us]
  have m3 : s k 16 3 = 0 := by rw [g3 k 16 3 (fun q => by have := q.2; omega), q_us]
  have cz : ∀ x, x ≠ -1 → cnt (c0 h dn (h 6)) x (h 6) = 0 := fun x hx => cnt_no _ (fun v hv => by rw [c0_pl h dn hv]; exact fun q => hx q.symm)
  have kf : kq (SXb k) s (mx_fl (mx_fl (mx_fl (mx_fl (mx_fl (mx_fl (mx_fl (mx_fl s k 18 0 30 (-1)) k 20 0 30 0) k 21 0 30 dn) k 22 0 30 0) k 23 0 30 (-1)) k 24 0 240 0) k 25 0 6 0) k 26 0 30 0) := kq_fl (kq_fl (kq_fl (kq_fl (kq_fl (kq_fl (kq_fl (kq_fl kq_rf (fun j => ⟨rfl, by omega⟩)) (fun j => ⟨rfl, by omega⟩)) (fun j => ⟨rfl, by omega⟩)) (fun j => ⟨rfl, by omega⟩)) (fun j => ⟨rfl, by omega⟩)) (fun j => ⟨rfl, by omega⟩)) (fun j => ⟨rfl, by omega⟩)) (fun j => ⟨rfl, by omega⟩)
  refine ⟨_, by rw [e_C_begin, q_w, q_w]; exact g1, ?_, ?_, kq_tr k1 (kq_tr (SG_b g3) kf)⟩
  · refine ⟨?_, ?_, fun v hv => ?_, fun v hv => ?_, fun v hv => ?_, fun v hv => ?_, fun v hv => ?_, fun v hv => ?_, fun v hv => ?_, fun v p hv hp => ?_, fun r hr => ?_⟩
    · rw [c0_hi h dn _ _ (by omega), ← m2]
      simp only [q_fl, show ¬ (16 : Nat) = 18 by decide, show ¬ (16 : Nat) = 20 by decide, show ¬ (16 : Nat) = 21 by decide, show ¬ (16 : Nat) = 22 by decide, show ¬ (16 : Nat) = 23 by decide, show ¬ (16 : Nat) = 24 by decide, show ¬ (16 : Nat) = 25 by decide, show ¬ (16 : Nat) = 26 by decide, false_and, and_false, if_false]
    · rw [cz _ (by decide), show nI 0 = 0 from rfl, ← m3]
      simp only [q_fl, show ¬ (16 : Nat) = 18 by decide, show ¬ (16 : Nat) = 20 by decide, show ¬ (16 : Nat) = 21 by decide, show ¬ (16 : Nat) = 22 by decide, show ¬ (16 : Nat) = 23 by decide, show ¬ (16 : Nat) = 24 by decide, show ¬ (16 : Nat) = 25 by decide, show ¬ (16 : Nat) = 26 by decide, false_and, and_false, if_false]
    · rw [q_flo (by decide), q_flo (by decide), q_flo (by decide), q_flo (by decide), q_flo (by decide), q_flo (by decide), q_flo (by decide), q_flo (by decide)]; exact (g2 v hv).1
    · rw [q_flo (by decide), q_flo (by decide), q_flo (by decide), q_flo (by decide), q_flo (by decide), q_flo (by decide), q_flo (by decide), q_fl, if_pos ⟨rfl, rfl, by omega, by omega⟩, c0_pl h dn hv]
    · rw [q_flo (by decide), q_flo (by decide), q_flo (by decide), q_flo (by decide), q_flo (by decide), q_flo (by decide), q_flo (by decide), q_flo (by decide), c0_at h dn _ v 1 hv (by decide)]; exact (g2 v hv).2
    · rw [q_flo (by decide), q_flo (by decide), q_flo (by decide), q_flo (by decide), q_flo (by decide), q_flo (by decide), q_fl, if_pos ⟨rfl, rfl, by omega, by omega⟩, c0_at h dn _ v 2 hv (by decide)]; rfl
    · rw [q_flo (by decide), q_flo (by decide), q_flo (by decide), q_flo (by decide), q_flo (by decide), q_fl, if_pos ⟨rfl, rfl, by omega, by omega⟩, c0_at h dn _ v 3 hv (by decide)]; rfl
    · rw [q_flo (by decide), q_flo (by decide), q_flo (by decide), q_flo (by decide), q_fl, if_pos ⟨rfl, rfl, by omega, by omega⟩, c0_at h dn _ v 4 hv (by decide)]; rfl
    · rw [q_fl, if_pos ⟨rfl, rfl, by omega, by omega⟩, c0_at h dn _ v 5 hv (by decide)]; rfl
    · rw [q_flo (by decide), q_flo (by decide), q_fl, if_pos ⟨rfl, rfl, by omega, by omega⟩, show 14 * v + 6 + p = 14 * v + (6 + p) by omega, c0_at h dn _ v (6 + p) hv (by omega)]
      unfold c0v
      rw [if_neg (by omega), if_neg (by omega), if_neg (by omega)]
    · rw [q_flo (by decide), q_fl, if_pos ⟨rfl, rfl, by omega, by omega⟩, cz _ (nI_m1 (by omega))]; rfl
  · intro v hv
    rw [aV_o (Or.inl (c0_pl h dn hv)), q_flo (by decide), q_flo (by decide), q_flo (by decide), q_fl, if_pos ⟨rfl, rfl, by omega, by omega⟩]
