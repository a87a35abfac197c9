/-! ===== a day, and what is seen in it ===== -/
def itC (h mt lw : Nat → Nat) (D : Nat → Nat → Nat) : Nat → Cr → Cr
  | 0, c => c
  | n + 1, c => itC h mt lw D n (minC h mt lw D c)
def onesI (x : Int32) : Int32 := 0 + ((x >>> (nI 0 &&& 31)) &&& 1) + ((x >>> (nI 1 &&& 31)) &&& 1) + ((x >>> (nI 2 &&& 31)) &&& 1) + ((x >>> (nI 3 &&& 31)) &&& 1) + ((x >>> (nI 4 &&& 31)) &&& 1) + ((x >>> (nI 5 &&& 31)) &&& 1) + ((x >>> (nI 6 &&& 31)) &&& 1) + ((x >>> (nI 7 &&& 31)) &&& 1)
def sumS (c : Cr) : Nat → Int32
  | 0 => 0
  | v + 1 => sumS c v + c (14 * v + 2)
def lstS (c : Cr) : Nat → Int32
  | 0 => 0
  | v + 1 => if v = 0 then c 2 else if lstS c v ≤ c (14 * v + 2) then lstS c v else c (14 * v + 2)
def misS (c : Cr) : Nat → Int32
  | 0 => 0
  | v + 1 => misS c v + onesI (c (14 * v + 4))
def seenV (w : Int32) (c : Cr) (n : Nat) : Int32 := if w = 0 then sumS c n else if w = 1 then lstS c n else misS c n
theorem s_ones (x : Int32) (s : mx_S) : mx_sem 144 [mx_I x] s = some (some (mx_I (onesI x)), s) := by
  rw [e_M_ones, e_M_ones_5, if_neg (by decide), e_M_ones_5, if_neg (by decide), e_M_ones_5, if_neg (by decide), e_M_ones_5, if_neg (by decide), e_M_ones_5, if_neg (by decide), e_M_ones_5, if_neg (by decide), e_M_ones_5, if_neg (by decide), e_M_ones_5, if_neg (by decide), e_M_ones_5, if_pos (by decide)]
  rfl
def bcI (x0 : Int32) : Int32 := ((((((((x0 - (((x0.toUInt32 >>> ((1 : Int32).toUInt32 &&& Int32.toUInt32 31)).toInt32) &&& 1431655765)) &&& 858993459) + ((((x0 - (((x0.toUInt32 >>> ((1 : Int32).toUInt32 &&& Int32.toUInt32 31)).toInt32) &&& 1431655765)).toUInt32 >>> ((2 : Int32).toUInt32 &&& Int32.toUInt32 31)).toInt32) &&& 858993459)) + (((((x0 - (((x0.toUInt32 >>> ((1 : Int32).toUInt32 &&& Int32.toUInt32 31)).toInt32) &&& 1431655765)) &&& 858993459) + ((((x0 - (((x0.toUInt32 >>> ((1 : Int32).toUInt32 &&& Int32.toUInt32 31)).toInt32) &&& 1431655765)).toUInt32 >>> ((2 : Int32).toUInt32 &&& Int32.toUInt32 31)).toInt32) &&& 858993459)).toUInt32 >>> ((4 : Int32).toUInt32 &&& Int32.toUInt32 31)).toInt32)) &&& 252645135) + (((((((x0 - (((x0.toUInt32 >>> ((1 : Int32).toUInt32 &&& Int32.toUInt32 31)).toInt32) &&& 1431655765)) &&& 858993459) + ((((x0 - (((x0.toUInt32 >>> ((1 : Int32).toUInt32 &&& Int32.toUInt32 31)).toInt32) &&& 1431655765)).toUInt32 >>> ((2 : Int32).toUInt32 &&& Int32.toUInt32 31)).toInt32) &&& 858993459)) + (((((x0 - (((x0.toUInt32 >>> ((1 : Int32).toUInt32 &&& Int32.toUInt32 31)).toInt32) &&& 1431655765)) &&& 858993459) + ((((x0 - (((x0.toUInt32 >>> ((1 : Int32).toUInt32 &&& Int32.toUInt32 31)).toInt32) &&& 1431655765)).toUInt32 >>> ((2 : Int32).toUInt32 &&& Int32.toUInt32 31)).toInt32) &&& 858993459)).toUInt32 >>> ((4 : Int32).toUInt32 &&& Int32.toUInt32 31)).toInt32)) &&& 252645135).toUInt32 >>> ((8 : Int32).toUInt32 &&& Int32.toUInt32 31)).toInt32)) + ((((((((x0 - (((x0.toUInt32 >>> ((1 : Int32).toUInt32 &&& Int32.toUInt32 31)).toInt32) &&& 1431655765)) &&& 858993459) + ((((x0 - (((x0.toUInt32 >>> ((1 : Int32).toUInt32 &&& Int32.toUInt32 31)).toInt32) &&& 1431655765)).toUInt32 >>> ((2 : Int32).toUInt32 &&& Int32.toUInt32 31)).toInt32) &&& 858993459)) + (((((x0 - (((x0.toUInt32 >>> ((1 : Int32).toUInt32 &&& Int32.toUInt32 31)).toInt32) &&& 1431655765)) &&& 858993459) + ((((x0 - (((x0.toUInt32 >>> ((1 : Int32).toUInt32 &&& Int32.toUInt32 31)).toInt32) &&& 1431655765)).toUInt32 >>> ((2 : Int32).toUInt32 &&& Int32.toUInt32 31)).toInt32) &&& 858993459)).toUInt32 >>> ((4 : Int32).toUInt32 &&& Int32.toUInt32 31)).toInt32)) &&& 252645135) + (((((((x0 - (((x0.toUInt32 >>> ((1 : Int32).toUInt32 &&& Int32.toUInt32 31)).toInt32) &&& 1431655765)) &&& 858993459) + ((((x0 - (((x0.toUInt32 >>> ((1 : Int32).toUInt32 &&& Int32.toUInt32 31)).toInt32) &&& 1431655765)).toUInt32 >>> ((2 : Int32).toUInt32 &&& Int32.toUInt32 31)).toInt32) &&& 858993459)) + (((((x0 - (((x0.toUInt32 >>> ((1 : Int32).toUInt32 &&& Int32.toUInt32 31)).toInt32) &&& 1431655765)) &&& 858993459) + ((((x0 - (((x0.toUInt32 >>> ((1 : Int32).toUInt32 &&& Int32.toUInt32 31)).toInt32) &&& 1431655765)).toUInt32 >>> ((2 : Int32).toUInt32 &&& Int32.toUInt32 31)).toInt32) &&& 858993459)).toUInt32 >>> ((4 : Int32).toUInt32 &&& Int32.toUInt32 31)).toInt32)) &&& 252645135).toUInt32 >>> ((8 : Int32).toUInt32 &&& Int32.toUInt32 31)).toInt32)).toUInt32 >>> ((16 : Int32).toUInt32 &&& Int32.toUInt32 31)).toInt32)) &&& 63)
theorem bc_ones : ∀ m, m < 256 → bcI (nI m) = onesI (nI m) := by decide +kernel
theorem s_bitCount {m : Nat} (hm : m < 256) (s : mx_S) : mx_sem 15 [mx_I (nI m)] s = some (some (mx_I (onesI (nI m))), s) := by
  rw [← bc_ones m hm]
  exact e_J_bitCount (nI m) s
/-! M -/
theorem CB.it {h mt lw : Nat → Nat} (hb : HB h) (h1 : 1 ≤ h 2) {D : Nat → Nat → Nat} (hD : DS h D) : ∀ n (c : Cr), CB h c → CB h (itC h mt lw D n c)
  | 0, _, cb => cb
  | n + 1, _, cb => CB.it hb h1 hD n _ (cb.min hb h1 hD)
theorem s_day25 {h : Nat → Nat} (hb : HB h) {b : mx_S} (hm : MH 43 h b) {c : Cr} (hc : MC 1 c b) {w : Int32} : ∀ (d v : Nat), v + d = h 6 → mx_H 145 25 [some (mx_R 0 39), none, some (mx_I w), some (mx_I (sumS c v)), some (mx_I (lstS c v)), some (mx_I (misS c v)), some (mx_I (nI v)), none] b = some (some (mx_I (seenV w c (h 6))), b) := by
  have h6 := hb.r6
  intro d
  induction d with
  | zero =>
    intro v hd
    have ev : v = h 6 := by omega
    subst ev
    rw [e_M_dayOf_25, q_gl (by decide) (by decide), hm 6 (by decide), if_pos ((q_leN (by omega) (by omega)).mpr (Nat.le_refl _))]
    unfold seenV
    by_cases w0 : w = 0
    · rw [if_pos w0, if_pos w0]
    · rw [if_neg w0, if_neg w0]
      by_cases w1 : w = 1
      · rw [if_pos w1, if_pos w1]
      · rw [if_neg w1, if_neg w1]
  | succ d ih =>
    intro v hd
    have hv30 : v < 30 := by omega
    have hX := e_M_dayOf_25 w (sumS c v) (lstS c v) (misS c v) (nI v) b
    rw [q_gl (by decide) (by decide), hm 6 (by decide), if_neg (by rw [q_leN (by omega) (by omega)]; omega), g14 (i := 2) hv30 (by decide) (by rfl), hc _ (by omega), g14 (i := 4) hv30 (by decide) (by rfl), hc _ (by omega), s_ones, q_bI, nI_1, g14 (i := 4) hv30 (by decide) (by rfl), hc _ (by omega), s_ones, q_bI] at hX
    have hih := ih (v + 1) (by omega)
    rw [show sumS c (v + 1) = sumS c v + c (14 * v + 2) from rfl, show misS c (v + 1) = misS c v + onesI (c (14 * v + 4)) from rfl, show lstS c (v + 1) = if v = 0 then c 2 else if lstS c v ≤ c (14 * v + 2) then lstS c v else c (14 * v + 2) from rfl] at hih
    refine hX.trans ?_
    by_cases v0 : v = 0
    · subst v0
      rw [if_pos rfl] at hih
      rw [if_pos (by decide)]; exact hih
    · rw [if_neg v0] at hih
      rw [if_neg (by rw [q_lit, q_eqN (by omega) (by decide)]; exact v0)]
      by_cases l : lstS c v ≤ c (14 * v + 2)
      · rw [if_pos l] at hih ⊢; exact hih
      · rw [if_neg l] at hih ⊢; exact hih
theorem s_day7 {h mt lw : Nat → Nat} (hb : HB h) (h1 : 1 ≤ h 2) {D : Nat → Nat → Nat} (hD : DS h D) {n : Nat} (hn : n ≤ 120) {w : Int32} : ∀ (d i : Nat) (c : Cr) (b : mx_S), i + d = n → ME h mt lw D b → CB h c → MC 1 c b → ∃ b', mx_H 145 7 [some (mx_R 0 39), some (mx_I (nI n)), some (mx_I w), some (mx_I (nI i)), none, none, none, none] b = some (some (mx_I (seenV w (itC h mt lw D d c) (h 6))), b') ∧ kq (S458 1) b b' := by
  intro d
  induction d with
  | zero =>
    intro i c b hd e cb hc
    have ei : i = n := by omega
    subst ei
    refine ⟨b, ?_, kq_rf⟩
    rw [e_M_dayOf_7, if_pos ((q_leN (by omega) (by omega)).mpr (Nat.le_refl _))]
    exact s_day25 hb e.m hc (h 6) 0 (by omega)
  | succ d ih =>
    intro i c b hd e cb hc
    obtain ⟨b1, f1, f2, f3⟩ := s_minute hb h1 hD e cb hc
    obtain ⟨b', g1, g2⟩ := ih (i + 1) _ b1 (by omega) (e.q f3) (cb.min hb h1 hD) f2
    refine ⟨b', ?_, kq_tr f3 g2⟩
    rw [e_M_dayOf_7, if_neg (by rw [q_leN (by omega) (by omega)]; omega), f1, q_bV, nI_1]
    exact g1
theorem s_mday {h mt lw : Nat → Nat} (hb : HB h) (h1 : 1 ≤ h 2) {D : Nat → Nat → Nat} (hD : DS h D) {n : Nat} (hn : n ≤ 120) (w : Int32) {dn : Int32} {b : mx_S} (e : ME h mt lw D b) (hdn : DN dn b) : ∃ b', mx_sem 145 [mx_R 0 39, mx_I (nI n), mx_I w] b = some (some (mx_I (seenV w (itC h mt lw D n (c0 h dn (h 6))) (h 6))), b') ∧ kq (S458 1) b b' := by
  obtain ⟨b1, f1, f2, f3⟩ := s_opens hb (kk := 1) e.m hdn
  obtain ⟨b', g1, g2⟩ := s_day7 hb h1 hD hn (w := w) n 0 _ b1 (by omega) (e.q (S45_8 f3)) (CB.c0 dn) f2
  refine ⟨b', ?_, kq_tr (S45_8 f3) g2⟩
  rw [e_M_dayOf, f1, q_bV]
  exact g1
/-! X: when all are out nothing more is seen -/
theorem cnt_all {c : Cr} {x : Int32} : ∀ n, n ≤ cnt c x n → ∀ v, v < n → c (14 * v) = x
  | 0, _, v, hv => by omega
  | n + 1, h, v, hv => by
    have l := cnt_le c x n
    unfold cnt at h
    by_cases q : c (14 * n) = x
    · rw [if_pos q] at h
      by_cases e : v = n
      · subst e; exact q
      · exact cnt_all n (by omega) v (by omega)
    · rw [if_neg q] at h
      omega
def Sm (n : Nat) (c c' : Cr) : Prop := ∀ v, v < n → c' (14 * v) = c (14 * v) ∧ c' (14 * v + 2) = c (14 * v + 2) ∧ c' (14 * v + 4) = c (14 * v + 4)
theorem Sm_seen {c c' : Cr} {w : Int32} : ∀ n, Sm n c c' → seenV w c' n = seenV w c n := by
  have k1 : ∀ n, Sm n c c' → sumS c' n = sumS c n := by
    intro n
    induction n with
    | zero => intro _; rfl
    | succ n ih =>
      intro h
      unfold sumS
      rw [ih (fun v hv => h v (by omega)), (h n (by omega)).2.1]
  have k2 : ∀ n, Sm n c c' → lstS c' n = lstS c n := by
    intro n
    induction n with
    | zero => intro _; rfl
    | succ n ih =>
      intro h
      unfold lstS
      rw [ih (fun v hv => h v (by omega)), (h n (by omega)).2.1]
      split
      · exact (h 0 (by omega)).2.1
      · rfl
  have k3 : ∀ n, Sm n c c' → misS c' n = misS c n := by
    intro n
    induction n with
    | zero => intro _; rfl
    | succ n ih =>
      intro h
      unfold misS
      rw [ih (fun v hv => h v (by omega)), (h n (by omega)).2.2]
  intro n h
  unfold seenV
  rw [k1 n h, k2 n h, k3 n h]
theorem Sm_min {h mt lw : Nat → Nat} (hb : HB h) {D : Nat → Nat → Nat} {c : Cr} (ho : ∀ v, v < h 6 → c (14 * v) = -2) : Sm (h 6) c (minC h mt lw D c) := by
  have h6 := hb.r6
  have key : ∀ u, u ≤ h 6 → Sm (h 6) c (mnS h mt lw D c u).1 := by
    intro u
    induction u with
    | zero => intro _ v hv; exact ⟨rfl, rfl, rfl⟩
    | succ u ih =>
      intro hu v hv
      have h1 := ih (by omega) v hv
      have h2 := ih (by omega) u (by omega)
      have e : (mnS h mt lw D c (u + 1)).1 = fup (mnS h mt lw D c u).1 (14 * u + 5) 0 := by
        show (goC h mt lw D (mnS h mt lw D c u).1 (mnS h mt lw D c u).2 u).1 = _
        unfold goC
        rw [h2.1, ho u (by omega), if_neg (by decide), if_pos rfl]
      rw [e, fup_o (by omega), fup_o (by omega), fup_o (by omega)]
      exact h1
  intro v hv
  have h1 := key (h 6) (Nat.le_refl _) v hv
  unfold minC
  rw [fup_o (by omega), fup_o (by omega), fup_o (by omega)]
  exact h1
theorem Sm_it {h mt lw : Nat → Nat} (hb : HB h) {D : Nat → Nat → Nat} : ∀ n (c : Cr), (∀ v, v < h 6 → c (14 * v) = -2) → Sm (h 6) c (itC h mt lw D n c)
  | 0, c, _ => fun v hv => ⟨rfl, rfl, rfl⟩
  | n + 1, c, ho => by
    have s1 := Sm_min (mt := mt) (lw := lw) (D := D) hb ho
    have s2 := Sm_it (mt := mt) (lw := lw) (D := D) hb n (minC h mt lw D c) (fun v hv => (s1 v hv).1.trans (ho v hv))
    exact fun v hv => ⟨(s2 v hv).1.trans (s1 v hv).1, (s2 v hv).2.1.trans (s1 v hv).2.1, (s2 v hv).2.2.trans (s1 v hv).2.2⟩
theorem s_allSaw {k : Nat} {h mt lw : Nat → Nat} (hb : HB h) {s : mx_S} (hx : XP k h mt lw s) {c : Cr} (x : XB k h c s) : ∀ (d v : Nat), v + d = h 6 → mx_H 17 5 [some (mx_R k 16), some (mx_I (sumS c v)), some (mx_I (nI v))] s = some (some (mx_I (sumS c (h 6))), s) := by
  have h6 := hb.r6
  intro d
  induction d with
  | zero =>
    intro v hd
    have ev : v = h 6 := by omega
    subst ev
    rw [e_C_allSaw_5, hx.f17, if_pos ((q_leN (by omega) (by omega)).mpr (Nat.le_refl _))]
  | succ d ih =>
    intro v hd
    rw [e_C_allSaw_5, hx.f17, if_neg (by rw [q_leN (by omega) (by omega)]; omega), q_g (show v < 30 by omega) (by decide), x.sa v (by omega), nI_1]
    exact ih (v + 1) (by omega)
theorem s_leastSaw {k : Nat} {h mt lw : Nat → Nat} (hb : HB h) {s : mx_S} (hx : XP k h mt lw s) {c : Cr} (x : XB k h c s) : ∀ (d v : Nat), 1 ≤ v → v + d = h 6 → mx_H 28 8 [some (mx_R k 16), some (mx_I (lstS c v)), some (mx_I (nI v))] s = some (some (mx_I (lstS c (h 6))), s) := by
  have h6 := hb.r6
  intro d
  induction d with
  | zero =>
    intro v h1 hd
    have ev : v = h 6 := by omega
    subst ev
    rw [e_C_leastSaw_8, hx.f17, if_pos ((q_leN (by omega) (by omega)).mpr (Nat.le_refl _))]
  | succ d ih =>
    intro v h1 hd
    have hih := ih (v + 1) (by omega) (by omega)
    rw [show lstS c (v + 1) = if v = 0 then c 2 else if lstS c v ≤ c (14 * v + 2) then lstS c v else c (14 * v + 2) from rfl, if_neg (by omega)] at hih
    rw [e_C_leastSaw_8, hx.f17, if_neg (by rw [q_leN (by omega) (by omega)]; omega), q_g (show v < 30 by omega) (by decide), x.sa v (by omega), nI_1]
    by_cases l : lstS c v ≤ c (14 * v + 2)
    · rw [if_pos l] at hih
      rw [if_neg (Int32.not_lt.mpr l)]; exact hih
    · rw [if_neg l] at hih
      rw [if_pos (Int32.not_le.mp l)]; exact hih
theorem s_allMissed {k : Nat} {h mt lw : Nat → Nat} (hb : HB h) {s : mx_S} (hx : XP k h mt lw s) {c : Cr} (cb : CB h c) (x : XB k h c s) : ∀ (d v : Nat), v + d = h 6 → mx_H 16 5 [some (mx_R k 16), some (mx_I (misS c v)), some (mx_I (nI v))] s = some (some (mx_I (misS c (h 6))), s) := by
  have h6 := hb.r6
  intro d
  induction d with
  | zero =>
    intro v hd
    have ev : v = h 6 := by omega
    subst ev
    rw [e_C_allMissed_5, hx.f17, if_pos ((q_leN (by omega) (by omega)).mpr (Nat.le_refl _))]
  | succ d ih =>
    intro v hd
    obtain ⟨m, hm, em⟩ := cb.ms v (by omega)
    have hih := ih (v + 1) (by omega)
    rw [show misS c (v + 1) = misS c v + onesI (c (14 * v + 4)) from rfl, em] at hih
    rw [e_C_allMissed_5, hx.f17, if_neg (by rw [q_leN (by omega) (by omega)]; omega), q_g (show v < 30 by omega) (by decide), x.ms v (by omega), em, s_bitCount hm, q_bI, nI_1]
    exact hih
theorem s_seenEnd {k : Nat} {h mt lw : Nat → Nat} (hb : HB h) (h60 : 1 ≤ h 6) {s : mx_S} (hx : XP k h mt lw s) {c : Cr} (cb : CB h c) (x : XB k h c s) (w : Int32) : (if w = Int32.ofNat 0 then (mx_bI none (mx_sem 17 [mx_R k 16] s) fun r2 s1 => (some (some (mx_I r2), s1) : Option mx_Rt)) else if w = Int32.ofNat 1 then (mx_bI none (mx_sem 28 [mx_R k 16] s) fun r4 s3 => some (some (mx_I r4), s3)) else (mx_bI none (mx_sem 16 [mx_R k 16] s) fun r6 s5 => some (some (mx_I r6), s5))) = some (some (mx_I (seenV w c (h 6))), s) := by
  unfold seenV
  by_cases w0 : w = 0
  · have key := s_allSaw hb hx x (h 6) 0 (by omega)
    rw [if_pos (show w = Int32.ofNat 0 from w0), if_pos w0, e_C_allSaw]
    exact (congrArg (fun z => mx_bI none z fun r2 s1 => (some (some (mx_I r2), s1) : Option mx_Rt)) key).trans rfl
  · rw [if_neg (show ¬ w = Int32.ofNat 0 from w0), if_neg w0]
    by_cases w1 : w = 1
    · have key := s_leastSaw hb hx x (h 6 - 1) 1 (by omega) (by omega)
      rw [if_pos (show w = Int32.ofNat 1 from w1), if_pos w1, e_C_leastSaw, q_gl (by decide) (by decide), show s k 20 0 = lstS c 1 from x.sa 0 (by omega)]
      exact (congrArg (fun z => mx_bI none z fun r2 s1 => (some (some (mx_I r2), s1) : Option mx_Rt)) key).trans rfl
    · have key := s_allMissed hb hx cb x (h 6) 0 (by omega)
      rw [if_neg (show ¬ w = Int32.ofNat 1 from w1), if_neg w1, e_C_allMissed]
      exact (congrArg (fun z => mx_bI none z fun r2 s1 => (some (some (mx_I r2), s1) : Option mx_Rt)) key).trans rfl
theorem s_seen7 {k : Nat} {h mt lw : Nat → Nat} (hb : HB h) (h1 : 1 ≤ h 2) (h60 : 1 ≤ h 6) {D : Nat → Nat → Nat} (hD : DS h D) (hl : ∀ g, g < h 5 → lw g ≤ 2) {n : Nat} (hn : n ≤ 120) {w : Int32} : ∀ (d i : Nat) (c : Cr) (a : mx_S), i + d = n → CB h c → XP k h mt lw a → XW k (h 2) D a → XB k h c a → XA k h lw D c a → ∃ a', mx_H 31 7 [some (mx_R k 0), some (mx_I (nI n)), some (mx_I w), none, some (mx_I (nI i))] a = some (some (mx_I (seenV w (itC h mt lw D d c) (h 6))), a') ∧ kq (SX k) a a' := by
  have h6 := hb.r6
  intro d
  induction d with
  | zero =>
    intro i c a hd cb hx hw x xa
    have ei : i = n := by omega
    subst ei
    refine ⟨a, ?_, kq_rf⟩
    rw [e_H_seenInDay_7, if_pos ((q_leN (by omega) (by omega)).mpr (Nat.le_refl _))]
    exact s_seenEnd hb h60 hx cb x w
  | succ d ih =>
    intro i c a hd cb hx hw x xa
    have cl := cnt_le c (-2) (h 6)
    have hX := e_H_seenInDay_7 k (nI n) w (nI i) a
    rw [if_neg (by rw [q_leN (by omega) (by omega)]; omega), hx.f17, x.ou, nI_1] at hX
    by_cases q : h 6 ≤ cnt c (-2) (h 6)
    · rw [if_pos ((q_leN (by omega) (by omega)).mpr q)] at hX
      refine ⟨a, ?_, kq_rf⟩
      rw [Sm_seen (h 6) (Sm_it hb (d + 1) c (cnt_all (h 6) q))]
      exact hX.trans (s_seenEnd hb h60 hx cb x w)
    · obtain ⟨a1, f1, f2, f3, f4⟩ := s_xminute hb h1 hD hl cb hx hw x xa
      obtain ⟨a', g1, g2⟩ := ih (i + 1) _ a1 (by omega) (cb.min hb h1 hD) (hx.x f4) (hw.x f4) f2 f3
      rw [if_neg (by rw [q_leN (by omega) (by omega)]; exact q), f1, q_bV] at hX
      exact ⟨a', hX.trans g1, kq_tr f4 g2⟩
theorem s_xday {k : Nat} {h mt lw : Nat → Nat} (hb : HB h) (h1 : 1 ≤ h 2) (h60 : 1 ≤ h 6) {D : Nat → Nat → Nat} (hD : DS h D) (hl : ∀ g, g < h 5 → lw g ≤ 2) {n : Nat} (hn : n ≤ 120) (w dn : Int32) {a : mx_S} (hx : XP k h mt lw a) (hw : XW k (h 2) D a) : ∃ a', mx_sem 31 [mx_R k 0, mx_I (nI n), mx_I w, mx_I dn] a = some (some (mx_I (seenV w (itC h mt lw D n (c0 h dn (h 6))) (h 6))), a') ∧ kq (SXb k) a a' := by
  obtain ⟨a1, f1, f2, f3, f4⟩ := s_begin hb D lw (dn := dn) hx
  obtain ⟨a', g1, g2⟩ := s_seen7 hb h1 h60 hD hl hn (w := w) n 0 _ a1 (by omega) (CB.c0 dn) (hx.b f4) (hw.b f4) f2 f3
  refine ⟨a', ?_, kq_tr f4 (SX_b g2)⟩
  rw [e_H_seenInDay, f1, q_bV]
  exact g1
