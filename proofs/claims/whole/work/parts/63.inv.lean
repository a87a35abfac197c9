/-! ===== what stands between the calls ===== -/
/-- who is to come has not looked -/
def CD (h : Nat → Nat) (c : Cr) : Prop := ∀ v, v < h 6 → c (14 * v) = -1 → c (14 * v + 5) = 0 ∨ c (14 * v + 5) = 3
theorem waitC_5 (c : Cr) (v aim : Nat) : waitC c v aim (14 * v + 5) = 3 := by
  unfold waitC
  split
  · split
    · rw [fup_o (by omega), fup_s]
    · rw [fup_o (by omega), fup_o (by omega), fup_s]
  · rw [fup_o (by omega), fup_s]
theorem CD.go {h mt lw : Nat → Nat} (hb : HB h) {D : Nat → Nat → Nat} {c : Cr} (cd : CD h c) (cb : CB h c) (hd : Cr) {v : Nat} (hv : v < h 6) : CD h (goC h mt lw D c hd v).1 := by
  have h2 := hb.r2
  intro w hw
  by_cases q : w = v
  · subst q
    have e0 : fup c (14 * w + 5) 0 (14 * w) = c (14 * w) := fup_o (by omega)
    have hent : ∀ r aim, entC h (fup c (14 * w + 5) 0) w r aim (14 * w) = nI r ∨ entC h (fup c (14 * w + 5) 0) w r aim (14 * w + 5) = 3 := fun r aim => by
      unfold entC
      split
      · exact Or.inl fup_s
      · exact Or.inr (waitC_5 _ _ _)
    unfold goC
    split
    · split
      · intro _; exact Or.inl fup_s
      · intro q
        rcases hent 0 1000 with z | z
        · exact absurd (z.symm.trans q) (by decide)
        · exact Or.inr z
    · rename_i q1
      split
      · intro _; exact Or.inl fup_s
      · rename_i q2
        obtain ⟨r, hr, hrc⟩ : ∃ r, r < h 2 ∧ c (14 * w) = nI r := by
          rcases cb.pl w hw with q | q | q
          · exact absurd q q1
          · exact absurd q q2
          · exact q
        split
        · intro q; exact absurd ((fup_s (c := fup c (14 * w + 5) 0) (j := 14 * w) (x := -2)).symm.trans q) (by decide)
        · split
          · intro q
            have l := (lookC_pl h mt (fup c (14 * w + 5) 0) hd w (aimF h D (lw (gO h w)) (rOf (c (14 * w))) (c (14 * w + 3)))).1
            exact absurd ((e0.symm.trans l.symm).trans q) q1
          · intro q
            rcases hent (nxr D (h 2) (rOf (c (14 * w))) (h (40 + 2 * aimF h D (lw (gO h w)) (rOf (c (14 * w))) (c (14 * w + 3))))) (aimF h D (lw (gO h w)) (rOf (c (14 * w))) (c (14 * w + 3))) with z | z
            · exfalso
              have z2 := z.symm.trans q
              have ok := nb_ok D (rOf (c (14 * w))) (h (40 + 2 * aimF h D (lw (gO h w)) (rOf (c (14 * w))) (c (14 * w + 3)))) (h 2) (by omega)
              refine nI_m1 ?_ z2
              show (nb D _ _ (h 2)).1 < _
              rcases ok with ok | ok <;> omega
            · exact Or.inr z
  · intro z
    rw [goC_o hb c hd (show 14 * w < 14 * v ∨ 14 * v + 14 ≤ 14 * w by omega)] at z
    rw [goC_o hb c hd (show 14 * w + 5 < 14 * v ∨ 14 * v + 14 ≤ 14 * w + 5 by omega)]
    exact cd w hw z
theorem CD.mn {h mt lw : Nat → Nat} (hb : HB h) (h1 : 1 ≤ h 2) {D : Nat → Nat → Nat} (hD : DS h D) {c : Cr} (cd : CD h c) (cb : CB h c) : ∀ v, v ≤ h 6 → CD h (mnS h mt lw D c v).1
  | 0, _ => cd
  | v + 1, hv => CD.go hb (CD.mn hb h1 hD cd cb v (by omega)) (CB.mn hb h1 hD cb v (by omega)) _ (by omega)
theorem CD.min {h mt lw : Nat → Nat} (hb : HB h) (h1 : 1 ≤ h 2) {D : Nat → Nat → Nat} (hD : DS h D) {c : Cr} (cd : CD h c) (cb : CB h c) : CD h (minC h mt lw D c) := by
  have h6 := hb.r6
  intro v hv
  unfold minC
  rw [fup_o (by omega), fup_o (by omega)]
  exact CD.mn hb h1 hD cd cb (h 6) (Nat.le_refl _) v hv
theorem CD.c0 {h : Nat → Nat} (dn : Int32) : CD h (c0 h dn (h 6)) := fun v hv _ => Or.inl (c0_at h dn (h 6) v 5 hv (by decide))
/-- a house, its ways, and who is in it -/
def GH (h : Nat → Nat) (D : Nat → Nat → Nat) (c : Cr) : Prop :=
  (HB h) ∧ (DS h D) ∧ (CB h c) ∧ (CD h c) ∧ ((h 2 = 0 ∧ h 5 = 0) ∨ (1 ≤ h 4 ∧ 1 ≤ h 6))
theorem GH.hb {h : Nat → Nat} {D : Nat → Nat → Nat} {c : Cr} (x_ : GH h D c) : HB h := x_.1
theorem GH.hD {h : Nat → Nat} {D : Nat → Nat → Nat} {c : Cr} (x_ : GH h D c) : DS h D := x_.2.1
theorem GH.cb {h : Nat → Nat} {D : Nat → Nat → Nat} {c : Cr} (x_ : GH h D c) : CB h c := x_.2.2.1
theorem GH.cd {h : Nat → Nat} {D : Nat → Nat → Nat} {c : Cr} (x_ : GH h D c) : CD h c := x_.2.2.2.1
theorem GH.nz {h : Nat → Nat} {D : Nat → Nat → Nat} {c : Cr} (x_ : GH h D c) : (h 2 = 0 ∧ h 5 = 0) ∨ (1 ≤ h 4 ∧ 1 ≤ h 6) := x_.2.2.2.2
def XH (k : Nat) (h : Nat → Nat) (D : Nat → Nat → Nat) (c : Cr) (a : mx_S) : Prop :=
  (XP k h (mt0 h) (lw0 h) a) ∧ (XW k (h 2) D a) ∧ (XB k h c a) ∧ (XA k h (lw0 h) D c a)
theorem XH.p {k : Nat} {h : Nat → Nat} {D : Nat → Nat → Nat} {c : Cr} {a : mx_S} (x_ : XH k h D c a) : XP k h (mt0 h) (lw0 h) a := x_.1
theorem XH.w {k : Nat} {h : Nat → Nat} {D : Nat → Nat → Nat} {c : Cr} {a : mx_S} (x_ : XH k h D c a) : XW k (h 2) D a := x_.2.1
theorem XH.b {k : Nat} {h : Nat → Nat} {D : Nat → Nat → Nat} {c : Cr} {a : mx_S} (x_ : XH k h D c a) : XB k h c a := x_.2.2.1
theorem XH.a {k : Nat} {h : Nat → Nat} {D : Nat → Nat → Nat} {c : Cr} {a : mx_S} (x_ : XH k h D c a) : XA k h (lw0 h) D c a := x_.2.2.2
theorem XB.k {k : Nat} {h : Nat → Nat} {c : Cr} {a a' : mx_S} (x : XB k h c a) (e : ∀ o j, 16 ≤ o → o ≤ 26 → a' k o j = a k o j) : XB k h c a' :=
  ⟨by rw [e 16 _ (by omega) (by omega)]; exact x.mn, by rw [e 16 _ (by omega) (by omega)]; exact x.ou, fun v hv => by rw [e 17 _ (by omega) (by omega)]; exact x.gr v hv, fun v hv => by rw [e 18 _ (by omega) (by omega)]; exact x.pl v hv, fun v hv => by rw [e 19 _ (by omega) (by omega)]; exact x.pa v hv, fun v hv => by rw [e 20 _ (by omega) (by omega)]; exact x.sa v hv, fun v hv => by rw [e 21 _ (by omega) (by omega)]; exact x.dn v hv, fun v hv => by rw [e 22 _ (by omega) (by omega)]; exact x.ms v hv, fun v hv => by rw [e 26 _ (by omega) (by omega)]; exact x.la v hv, fun v p hv hp => by rw [e 24 _ (by omega) (by omega)]; exact x.lo v p hv hp, fun r hr => by rw [e 25 _ (by omega) (by omega)]; exact x.ins r hr⟩
theorem XW.k {k n : Nat} {D : Nat → Nat → Nat} {a a' : mx_S} (x : XW k n D a) (e : ∀ o j, 14 ≤ o → o ≤ 15 → a' k o j = a k o j) : XW k n D a' := ⟨fun y z hy hz => by rw [e 14 _ (by omega) (by omega)]; exact x.1 y z hy hz, fun y z hy hz => by rw [e 15 _ (by omega) (by omega)]; exact x.2 y z hy hz⟩
theorem XH.k {k : Nat} {h : Nat → Nat} {D : Nat → Nat → Nat} {c : Cr} {a a' : mx_S} (x : XH k h D c a) (e : ∀ o j, 1 ≤ o → o ≤ 26 → a' k o j = a k o j) : XH k h D c a' :=
  ⟨x.p.k (fun o j h1 h2 => e o j h1 (by omega)), x.w.k (fun o j h1 h2 => e o j (by omega) (by omega)), x.b.k (fun o j h1 h2 => e o j (by omega) (by omega)), fun v hv => by rw [e 23 v (by omega) (by omega)]; exact x.a v hv⟩
def MHs (h : Nat → Nat) (D : Nat → Nat → Nat) (c : Cr) (b : mx_S) : Prop :=
  (MH 43 h b) ∧ (MF D b) ∧ (MC 0 c b) ∧ (b 0 39 7 = if h 2 = 0 then 0 else 1)
theorem MHs.m {h : Nat → Nat} {D : Nat → Nat → Nat} {c : Cr} {b : mx_S} (x_ : MHs h D c b) : MH 43 h b := x_.1
theorem MHs.f {h : Nat → Nat} {D : Nat → Nat → Nat} {c : Cr} {b : mx_S} (x_ : MHs h D c b) : MF D b := x_.2.1
theorem MHs.c {h : Nat → Nat} {D : Nat → Nat → Nat} {c : Cr} {b : mx_S} (x_ : MHs h D c b) : MC 0 c b := x_.2.2.1
theorem MHs.t {h : Nat → Nat} {D : Nat → Nat → Nat} {c : Cr} {b : mx_S} (x_ : MHs h D c b) : b 0 39 7 = if h 2 = 0 then 0 else 1 := x_.2.2.2
theorem MHs.k {h : Nat → Nat} {D : Nat → Nat → Nat} {c : Cr} {b b' : mx_S} (x : MHs h D c b) (e : ∀ o j, o = 43 ∨ o = 45 ∨ o = 47 ∨ (o = 39 ∧ j = 7) → b' 0 o j = b 0 o j) : MHs h D c b' :=
  ⟨x.m.k (fun j => e 43 j (by omega)), fun y z hy hz => by rw [e 47 _ (by omega)]; exact x.f y z hy hz, x.c.k (fun j => e 45 j (by omega)), by rw [e 39 7 (by omega)]; exact x.t⟩
def LV (a b : mx_S) : Prop := ∃ h D c, GH h D c ∧ XH 0 h D c a ∧ MHs h D c b
def IM (i : Nat) (a b : mx_S) : Prop := (a (i + 2) 1 2 = 0 ∧ b 0 51 i = 0) ∨ ∃ h D c, GH h D c ∧ 1 ≤ h 2 ∧ XH (i + 2) h D c a ∧ (∀ j, j < 80 → b 0 52 (80 * i + j) = nI (h j)) ∧ (∀ j, j < 421 → b 0 53 (421 * i + j) = c j) ∧ b 0 51 i = 1 ∧ b 0 39 7 = 1
def TRn (m : Nat) (a b : mx_S) : Prop := m ≤ 16 ∧ a 0 35 2 = nI m ∧ b 0 39 32 = nI m ∧ ∀ i, i < m → a 0 36 i = b 0 54 i
def TRr (a b : mx_S) : Prop := ∃ m, TRn m a b
def INV (a b : mx_S) : Prop :=
  (IR a b) ∧ (IS a b) ∧ (IT a b) ∧ (IF a b) ∧ (TRr a b) ∧ (b 0 39 21 = -1 ∧ b 0 39 22 = -1 ∧ b 0 39 23 = -1) ∧ (LV a b) ∧ (IM 0 a b) ∧ (IM 1 a b)
theorem INV.r {a b : mx_S} (x_ : INV a b) : IR a b := x_.1
theorem INV.s {a b : mx_S} (x_ : INV a b) : IS a b := x_.2.1
theorem INV.t {a b : mx_S} (x_ : INV a b) : IT a b := x_.2.2.1
theorem INV.f {a b : mx_S} (x_ : INV a b) : IF a b := x_.2.2.2.1
theorem INV.tr {a b : mx_S} (x_ : INV a b) : TRr a b := x_.2.2.2.2.1
theorem INV.e {a b : mx_S} (x_ : INV a b) : b 0 39 21 = -1 ∧ b 0 39 22 = -1 ∧ b 0 39 23 = -1 := x_.2.2.2.2.2.1
theorem INV.l {a b : mx_S} (x_ : INV a b) : LV a b := x_.2.2.2.2.2.2.1
theorem INV.i0 {a b : mx_S} (x_ : INV a b) : IM 0 a b := x_.2.2.2.2.2.2.2.1
theorem INV.i1 {a b : mx_S} (x_ : INV a b) : IM 1 a b := x_.2.2.2.2.2.2.2.2
/-! each part, where its cells are as they were -/
theorem IR.k {a b a' b' : mx_S} (x : IR a b) (ea : ∀ k o j, o = 32 ∨ o = 33 → a' k o j = a k o j) (eb : ∀ o j, o = 40 ∨ o = 41 ∨ o = 42 → b' 0 o j = b 0 o j) : IR a' b' := by
  intro r hr
  have h := x r hr
  rw [ea r 32 3 (by omega), ea r 32 1 (by omega), ea r 32 2 (by omega), eb 41 r (by omega), eb 40 r (by omega)]
  refine ⟨h.1, fun i hi => ?_, h.2.2⟩
  rw [ea r 33 i (by omega), eb 42 _ (by omega)]
  exact h.2.1 i hi
theorem IT.k {a b a' b' : mx_S} (x : IT a b) (ea : ∀ o j, (o = 29 ∧ j = 1) ∨ o = 30 → a' 0 o j = a 0 o j) (eb : ∀ o j, (o = 39 ∧ j = 11) ∨ o = 46 → b' 0 o j = b 0 o j) : IT a' b' := by
  obtain ⟨n, h1, h2, h3, h4⟩ := x
  refine ⟨n, h1, by rw [ea 29 1 (by omega)]; exact h2, by rw [eb 39 11 (by omega)]; exact h3, fun j hj => ?_⟩
  rw [ea 30 j (by omega), eb 46 j (by omega)]
  exact h4 j hj
theorem TRr.k {a b a' b' : mx_S} (x : TRr a b) (ea : ∀ o j, (o = 35 ∧ j = 2) ∨ o = 36 → a' 0 o j = a 0 o j) (eb : ∀ o j, (o = 39 ∧ j = 32) ∨ o = 54 → b' 0 o j = b 0 o j) : TRr a' b' := by
  obtain ⟨n, h1, h2, h3, h4⟩ := x
  refine ⟨n, h1, by rw [ea 35 2 (by omega)]; exact h2, by rw [eb 39 32 (by omega)]; exact h3, fun j hj => ?_⟩
  rw [ea 36 j (by omega), eb 54 j (by omega)]
  exact h4 j hj
theorem IM.k {i : Nat} {a b a' b' : mx_S} (x : IM i a b) (ea : ∀ o j, 1 ≤ o → o ≤ 26 → a' (i + 2) o j = a (i + 2) o j) (eb : ∀ o j, o = 51 ∨ o = 52 ∨ o = 53 → b' 0 o j = b 0 o j) (e7 : b' 0 39 7 = b 0 39 7 ∨ b' 0 39 7 = 1) : IM i a' b' := by
  rcases x with ⟨x1, x2⟩ | ⟨h, D, c, x1, x2, x3, x4, x5, x6, x7⟩
  · exact Or.inl ⟨by rw [ea 1 2 (by omega) (by omega)]; exact x1, by rw [eb 51 i (by omega)]; exact x2⟩
  · exact Or.inr ⟨h, D, c, x1, x2, x3.k ea, fun j hj => by rw [eb 52 _ (by omega)]; exact x4 j hj, fun j hj => by rw [eb 53 _ (by omega)]; exact x5 j hj, by rw [eb 51 i (by omega)]; exact x6, by rcases e7 with e7 | e7; exact e7.trans x7; exact e7⟩
theorem LV.k {a b a' b' : mx_S} (x : LV a b) (ea : ∀ o j, 1 ≤ o → o ≤ 26 → a' 0 o j = a 0 o j) (eb : ∀ o j, o = 43 ∨ o = 45 ∨ o = 47 ∨ (o = 39 ∧ j = 7) → b' 0 o j = b 0 o j) : LV a' b' := by
  obtain ⟨h, D, c, x1, x2, x3⟩ := x
  exact ⟨h, D, c, x1, x2.k ea, x3.k eb⟩
/-- what nobody asks for -/
def JX (k o j : Nat) : Prop := (k = 1 ∧ o ≤ 27) ∨ o = 27 ∨ o = 37 ∨ o = 38 ∨ (o = 29 ∧ j ≠ 1)
def JM (k o j : Nat) : Prop := o = 44 ∨ (48 ≤ o ∧ o ≤ 50) ∨ (k = 1 ∧ o = 45) ∨ (o = 39 ∧ (j = 0 ∨ (13 ≤ j ∧ j ≤ 20) ∨ j = 27))
theorem INV.j {a b a' b' : mx_S} (x : INV a b) (ea : kq JX a a') (eb : kq JM b b') : INV a' b' := by
  have qa : ∀ k o j, ¬ JX k o j → a' k o j = a k o j := ea
  have qb : ∀ k o j, ¬ JM k o j → b' k o j = b k o j := eb
  unfold JX at qa
  unfold JM at qb
  refine ⟨x.r.k (fun k o j ho => qa k o j (by omega)) (fun o j ho => qb 0 o j (by omega)), ?_, x.t.k (fun o j ho => qa 0 o j (by omega)) (fun o j ho => qb 0 o j (by omega)), ?_, x.tr.k (fun o j ho => qa 0 o j (by omega)) (fun o j ho => qb 0 o j (by omega)), ?_, x.l.k (fun o j h1 h2 => qa 0 o j (by omega)) (fun o j ho => qb 0 o j (by omega)), x.i0.k (fun o j h1 h2 => qa 2 o j (by omega)) (fun o j ho => qb 0 o j (by omega)) (Or.inl (qb 0 39 7 (by omega))), x.i1.k (fun o j h1 h2 => qa 3 o j (by omega)) (fun o j ho => qb 0 o j (by omega)) (Or.inl (qb 0 39 7 (by omega)))⟩
  · unfold IS
    rw [qa 0 28 9 (by omega), qb 0 39 1 (by omega)]; exact x.s
  · unfold IF
    rw [qa 0 28 8 (by omega), qb 0 39 12 (by omega)]; exact x.f
  · rw [qb 0 39 21 (by omega), qb 0 39 22 (by omega), qb 0 39 23 (by omega)]; exact x.e
theorem INV.t0 {a b : mx_S} (x : INV a b) : INV a (mx_up b 0 39 0 0) := x.j kq_rf (kq_up kq_rf (by unfold JM; omega))
theorem Alk.mono {P Q : mx_S → mx_S → Prop} {yX yM : Nat} {as : List mx_V} {a b : mx_S} (h : Alk P yX yM as a b) (hq : ∀ a' b', P a' b' → Q a' b') : Alk Q yX yM as a b := by
  obtain ⟨v, a', b', h1, h2, h3⟩ := h
  exact ⟨v, a', b', h1, h2, hq _ _ h3⟩
theorem INV.rows {a b a' b' : mx_S} (x : INV a b) (h : RowsP a b a' b') : INV a' b' := by
  obtain ⟨h1, h2, h3, h4⟩ := h
  refine ⟨h1, h2, x.t.k (fun o j ho => h3 0 o j (by omega) (by omega) (by omega) (by omega)) (fun o j ho => h4 0 o j (by omega) (by omega) (by omega) (by omega) (by omega)), ?_, x.tr.k (fun o j ho => h3 0 o j (by omega) (by omega) (by omega) (by omega)) (fun o j ho => h4 0 o j (by omega) (by omega) (by omega) (by omega) (by omega)), ?_, x.l.k (fun o j _ _ => h3 0 o j (by omega) (by omega) (by omega) (by omega)) (fun o j ho => h4 0 o j (by omega) (by omega) (by omega) (by omega) (by omega)), x.i0.k (fun o j _ _ => h3 2 o j (by omega) (by omega) (by omega) (by omega)) (fun o j ho => h4 0 o j (by omega) (by omega) (by omega) (by omega) (by omega)) (Or.inl (h4 0 39 7 (by omega) (by omega) (by omega) (by omega) (by omega))), x.i1.k (fun o j _ _ => h3 3 o j (by omega) (by omega) (by omega) (by omega)) (fun o j ho => h4 0 o j (by omega) (by omega) (by omega) (by omega) (by omega)) (Or.inl (h4 0 39 7 (by omega) (by omega) (by omega) (by omega) (by omega)))⟩
  · unfold IF
    rw [h3 0 28 8 (by omega) (by omega) (by omega) (by omega), h4 0 39 12 (by omega) (by omega) (by omega) (by omega) (by omega)]; exact x.f
  · rw [h4 0 39 21 (by omega) (by omega) (by omega) (by omega) (by omega), h4 0 39 22 (by omega) (by omega) (by omega) (by omega) (by omega), h4 0 39 23 (by omega) (by omega) (by omega) (by omega) (by omega)]; exact x.e
theorem iv_row {a b : mx_S} (x : INV a b) (x1 x2 x3 : Int32) : Alk INV 101 183 [mx_I x1, mx_I x2, mx_I x3] a b := (ap_row x.r x.s x1 x2 x3).mono (fun _ _ h => x.rows h)
theorem iv_set {a b : mx_S} (x : INV a b) (x1 x2 x3 : Int32) : Alk INV 105 186 [mx_I x1, mx_I x2, mx_I x3] a b := (ap_set x.r x.s x1 x2 x3).mono (fun _ _ h => x.rows h)
theorem iv_drop {a b : mx_S} (x : INV a b) (x1 : Int32) : Alk INV 84 155 [mx_I x1] a b := (ap_drop x.r x.s x1).mono (fun _ _ h => x.rows h)
theorem iv_status {a b : mx_S} (x : INV a b) : Alk INV 106 187 [] a b := (ap_status x.r x.s).mono (fun _ _ h => x.rows h)
theorem iv_fault {a b : mx_S} (x : INV a b) : Alk INV 86 157 [] a b := (ap_fault x.f).mono (fun a' b' h => by rw [h.1, h.2]; exact x.t0)
theorem iv_feed {a b : mx_S} (x : INV a b) (w : Int64) (x3 : Int32) : Alk INV 87 158 [mx_J w, mx_I x3] a b := (ap_feed x.t w x3).mono (fun a' b' h => by
  obtain ⟨h1, h2, h3⟩ := h
  have qa : ∀ k o j, ¬ SfX o j → a' k o j = a k o j := h2
  have qb : ∀ k o j, ¬ SfM o j → b' k o j = b k o j := h3
  unfold SfX at qa
  unfold SfM at qb
  refine ⟨x.r.k (fun k o j ho => qa k o j (by omega)) (fun o j ho => qb 0 o j (by omega)), ?_, h1, ?_, x.tr.k (fun o j ho => qa 0 o j (by omega)) (fun o j ho => qb 0 o j (by omega)), ?_, x.l.k (fun o j h1 h2 => qa 0 o j (by omega)) (fun o j ho => qb 0 o j (by omega)), x.i0.k (fun o j h1 h2 => qa 2 o j (by omega)) (fun o j ho => qb 0 o j (by omega)) (Or.inl (qb 0 39 7 (by omega))), x.i1.k (fun o j h1 h2 => qa 3 o j (by omega)) (fun o j ho => qb 0 o j (by omega)) (Or.inl (qb 0 39 7 (by omega)))⟩
  · unfold IS
    rw [qa 0 28 9 (by omega), qb 0 39 1 (by omega)]; exact x.s
  · unfold IF
    rw [qa 0 28 8 (by omega), qb 0 39 12 (by omega)]; exact x.f
  · rw [qb 0 39 21 (by omega), qb 0 39 22 (by omega), qb 0 39 23 (by omega)]; exact x.e)
