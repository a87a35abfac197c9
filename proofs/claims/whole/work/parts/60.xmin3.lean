/-! ===== X's minute ===== -/
theorem aV_r {h lw : Nat → Nat} {D : Nat → Nat → Nat} {c : Cr} {v r : Nat} (hr : r < 2147483648) (h0 : c (14 * v) = nI r) : aV h lw D c v = vNo (aimF h D (lw (gO h v)) r (c (14 * v + 3))) := by
  unfold aV
  rw [h0, if_neg, rOf_n hr]
  rintro (q | q)
  · exact nI_m1 hr q
  · exact nI_m2 hr q
theorem aV_o {h lw : Nat → Nat} {D : Nat → Nat → Nat} {c : Cr} {v : Nat} (h0 : c (14 * v) = -1 ∨ c (14 * v) = -2) : aV h lw D c v = -1 := if_pos h0
def XGo (k : Nat) (h mt lw : Nat → Nat) (D : Nat → Nat → Nat) (c hd : Cr) (v : Nat) (a a' : mx_S) : Prop := XB k h (goC h mt lw D c hd v).1 a' ∧ XA k h lw D (goC h mt lw D c hd v).1 a' ∧ (∀ q, q < 8 → a' k 27 q = (goC h mt lw D c hd v).2 q) ∧ kq (SV k v) a a'
theorem s_xgo {k : Nat} {h mt lw : Nat → Nat} (hb : HB h) (h1 : 1 ≤ h 2) {D : Nat → Nat → Nat} (hD : DS h D) (hl : ∀ g, g < h 5 → lw g ≤ 2) {a : mx_S} {c hd : Cr} (hx : XP k h mt lw a) (hw : XW k (h 2) D a) (cb : CB h c) (x : XB k h c a) (xa : XA k h lw D c a) (hh : ∀ q, q < 8 → a k 27 q = hd q) {v : Nat} (hv : v < h 6) : ∃ a', mx_H 29 7 [some (mx_R k 16), some (mx_I (nI v))] a = mx_H 29 7 [some (mx_R k 16), some (mx_I (nI (v + 1)))] a' ∧ XGo k h mt lw D c hd v a a' := by
  have h6 := hb.r6
  have h5 := hb.r5
  have h4 := hb.r4
  have h2 := hb.r2
  have hv30 : v < 30 := by omega
  have hg := (gO_ok hb hv).1
  have hX := e_C_passMinute_7 k (nI v) a
  rw [hx.f17, if_neg (by rw [q_leN (by omega) (by omega)]; omega), q_g hv30 (by decide), q_w, q_g hv30 (by decide), q_uo (show 18 ≠ 26 by decide), x.pl v hv, nI_1, q_g hv30 (by decide), x.pl v hv] at hX
  have out : ∀ i, i < 14 * v ∨ 14 * v + 14 ≤ i → fup c (14 * v + 5) 0 i = c i := fun i hi => fup_o (by omega)
  have k1 : kq (SV k v) a (mx_up a k 26 v 0) := kq_up kq_rf ⟨rfl, by omega⟩
  have e0 : fup c (14 * v + 5) 0 (14 * v) = c (14 * v) := fup_o (by omega)
  have e3 : fup c (14 * v + 5) 0 (14 * v + 3) = c (14 * v + 3) := fup_o (by omega)
  have x1 : XB k h (fup c (14 * v + 5) 0) (mx_up a k 26 v 0) := by
    refine x.st hb hv out k1 ?_ ?_ ?_ ?_ ?_ ?_ (fun q hq => ?_) ?_ (fun r hr => ?_)
    · rw [e0, q_uo (by decide)]; exact x.pl v hv
    · rw [fup_o (by omega), q_uo (by decide)]; exact x.pa v hv
    · rw [fup_o (by omega), q_uo (by decide)]; exact x.sa v hv
    · rw [e3, q_uo (by decide)]; exact x.dn v hv
    · rw [fup_o (by omega), q_uo (by decide)]; exact x.ms v hv
    · rw [fup_s, q_us]
    · rw [fup_o (by omega), q_uo (by decide)]; exact x.lo v q hv hq
    · rw [q_uo (by decide), cnt_sm hv out e0]; exact x.ou
    · rw [q_uo (by decide), cnt_sm hv out e0]; exact x.ins r hr
  have xa1 : XA k h lw D (fup c (14 * v + 5) 0) (mx_up a k 26 v 0) := xa.st out k1 (by
    rw [q_uo (by decide), xa v hv]
    unfold aV
    rw [e0, e3])
  have hh1 : ∀ q, q < 8 → mx_up a k 26 v 0 k 27 q = hd q := fun q hq => by rw [q_uo (by decide)]; exact hh q hq
  have hx1 := hx.v k1
  have hw1 := hw.v k1
  have m1 : fup c (14 * v + 5) 0 420 = c 420 := fup_o (by omega)
  unfold XGo goC
  generalize hc1 : fup c (14 * v + 5) 0 = c1 at x1 xa1 e0 e3 m1 ⊢
  generalize ha1 : mx_up a k 26 v 0 = a1 at x1 xa1 hh1 hx1 hw1 k1 hX
  by_cases p1 : c (14 * v) = -1
  · rw [if_pos p1] at hX ⊢
    have hC := e_C_comeIn k (nI v) a1
    rw [q_g hv30 (by decide), x1.gr v hv, q_g (show gO h v < 6 by omega) (by decide), x1.mn, m1, (hx1.gr _ hg).2.1] at hC
    by_cases p2 : c 420 < nI (h (57 + 4 * gO h v))
    · rw [if_pos p2] at hC ⊢
      rw [hC, q_bV] at hX
      exact ⟨a1, hX, x1, xa1, hh1, k1⟩
    · have hE := s_xenter hb hD hx1 hw1 hl x1 hv (show 0 < h 2 by omega)
      rw [if_neg p2, show mx_I 0 = mx_I (nI 0) from rfl, hE] at hC
      rw [if_neg p2]
      unfold entC
      by_cases p3 : cnt c1 (nI 0) (h 6) < h (7 + 0)
      · rw [if_pos p3, q_bI, if_neg (by decide)] at hC
        rw [if_pos p3]
        rw [hC, q_bV] at hX
        have o2 : ∀ i, i < 14 * v ∨ 14 * v + 14 ≤ i → fup c1 (14 * v) (nI 0) i = c1 i := fun i hi => fup_o (by omega)
        have k2 : kq (SV k v) a1 (mx_up (mx_up (mx_up a1 k 25 0 (nI (cnt c1 (nI 0) (h 6) + 1))) k 18 v (nI 0)) k 23 v (vNo (aimF h D (lw (gO h v)) 0 (c1 (14 * v + 3))))) := kq_up (kq_up (kq_up kq_rf ⟨rfl, by omega⟩) ⟨rfl, by omega⟩) ⟨rfl, by omega⟩
        have cg := fun z => cnt_go (x := z) hv o2
        dsimp only
        refine ⟨_, hX, x1.st hb hv o2 k2 ?_ ?_ ?_ ?_ ?_ ?_ (fun q hq => ?_) ?_ (fun r hr => ?_), xa1.st o2 k2 ?_, fun q hq => ?_, kq_tr k1 k2⟩
        · rw [fup_s, q_uo (by decide), q_us]
        · rw [fup_o (by omega), q_uo (by decide), q_uo (by decide), q_uo (by decide)]; exact x1.pa v hv
        · rw [fup_o (by omega), q_uo (by decide), q_uo (by decide), q_uo (by decide)]; exact x1.sa v hv
        · rw [fup_o (by omega), q_uo (by decide), q_uo (by decide), q_uo (by decide)]; exact x1.dn v hv
        · rw [fup_o (by omega), q_uo (by decide), q_uo (by decide), q_uo (by decide)]; exact x1.ms v hv
        · rw [fup_o (by omega), q_uo (by decide), q_uo (by decide), q_uo (by decide)]; exact x1.la v hv
        · rw [fup_o (by omega), q_uo (by decide), q_uo (by decide), q_uo (by decide)]; exact x1.lo v q hv hq
        · rw [q_uo (by decide), q_uo (by decide), q_uo (by decide), x1.ou]
          congr 1
          have := cg (-2)
          rw [e0, p1, if_neg (by decide), fup_s, if_neg (by decide)] at this
          omega
        · rw [q_uo (by decide), q_uo (by decide)]
          have := cg (nI r)
          rw [e0, p1, if_neg (fun z => nI_m1 (show r < 2147483648 by omega) z.symm), fup_s] at this
          by_cases w : r = 0
          · subst w
            rw [if_pos rfl] at this
            rw [q_us]
            congr 1
            omega
          · rw [if_neg (by rw [q_eqN (by omega) (by omega)]; omega)] at this
            rw [q_uj w, x1.ins r hr]
            congr 1
            omega
        · rw [q_us, aV_r (r := 0) (by decide) fup_s, fup_o (show 14 * v + 3 ≠ 14 * v by omega)]
        · rw [q_uo (by decide), q_uo (by decide), q_uo (by decide)]; exact hh1 q hq
      · obtain ⟨s', f1, f2, f3⟩ := s_xwait hb x1 hv (aim := 1000) (by rw [xa1 v hv, aV_o (Or.inl (e0.trans p1))]; rfl) (Or.inl ⟨e0.trans p1, rfl⟩)
        rw [if_neg p3, q_bI, if_pos rfl, f1, q_bV] at hC
        rw [if_neg p3]
        rw [hC, q_bV] at hX
        refine ⟨s', hX, f2, xa1.st (fun i hi => waitC_o c1 hi) (SVw_V f3) ?_, fun q hq => ?_, kq_tr k1 (SVw_V f3)⟩
        · rw [f3 k 23 v (fun z => by have := z.2; omega), xa1 v hv, aV_o (Or.inl (e0.trans p1)), aV_o]
          rcases waitC_pl c1 v 1000 with w | w
          · exact Or.inl (w.trans (e0.trans p1))
          · exact Or.inr w
        · rw [f3 k 27 q (fun z => by have := z.2; omega)]; exact hh1 q hq
  · rw [if_neg p1] at hX ⊢
    by_cases p2 : c (14 * v) = -2
    · rw [if_pos p2] at hX ⊢
      exact ⟨a1, hX, x1, xa1, hh1, k1⟩
    · obtain ⟨r, hr, hrc⟩ : ∃ r, r < h 2 ∧ c (14 * v) = nI r := by
        rcases cb.pl v hv with q | q | q
        · exact absurd q p1
        · exact absurd q p2
        · exact q
      have er : rOf (c (14 * v)) = r := by rw [hrc]; exact rOf_n (by omega)
      have e0r : c1 (14 * v) = nI r := e0.trans hrc
      rw [if_neg p2] at hX ⊢
      rw [er]
      have hA1 : a1 k 23 v = vNo (aimF h D (lw (gO h v)) r (c (14 * v + 3))) := by rw [xa1 v hv, aV_r (by omega) e0r, e3]
      have ok := aimF_ok h D (lw (gO h v)) r (c (14 * v + 3))
      have hC := e_C_goAbout k (nI v) a1
      rw [q_g hv30 (by decide), q_g hv30 (by decide), hA1] at hC
      generalize hA : aimF h D (lw (gO h v)) r (c (14 * v + 3)) = A at hC ok hA1 ⊢
      have cp := cnt_pos (x := nI r) (h 6) hv e0r
      have cl := cnt_le c1 (nI r) (h 6)
      by_cases a0 : A = 1000
      · rw [a0, if_pos (show vNo 1000 = -1 from rfl), x1.pl v hv, e0r, q_g (show r < 6 by omega) (by decide), q_g (show r < 6 by omega) (by decide), q_w, x1.ins r hr, show (1 : Int32) = nI 1 from rfl, q_sub cp, e_C_leave, q_g hv30 (by decide), q_w, q_w, q_bV, q_uo (show 16 ≠ 18 by decide), q_uo (show 16 ≠ 25 by decide), x1.ou, nI_1] at hC
        rw [if_pos a0]
        rw [hC, q_bV] at hX
        have o2 : ∀ i, i < 14 * v ∨ 14 * v + 14 ≤ i → fup c1 (14 * v) (-2) i = c1 i := fun i hi => fup_o (by omega)
        have k2 : kq (SV k v) a1 (mx_up (mx_up (mx_up a1 k 25 r (nI (cnt c1 (nI r) (h 6) - 1))) k 18 v (-2)) k 16 3 (nI (cnt c1 (-2) (h 6) + 1))) := kq_up (kq_up (kq_up kq_rf ⟨rfl, by omega⟩) ⟨rfl, by omega⟩) ⟨rfl, by omega⟩
        have cg := fun z => cnt_go (x := z) hv o2
        dsimp only
        refine ⟨_, hX, x1.st hb hv o2 k2 ?_ ?_ ?_ ?_ ?_ ?_ (fun q hq => ?_) ?_ (fun u hu => ?_), xa1.st o2 k2 ?_, fun q hq => ?_, kq_tr k1 k2⟩
        · rw [fup_s, q_uo (by decide), q_us]
        · rw [fup_o (by omega), q_uo (by decide), q_uo (by decide), q_uo (by decide)]; exact x1.pa v hv
        · rw [fup_o (by omega), q_uo (by decide), q_uo (by decide), q_uo (by decide)]; exact x1.sa v hv
        · rw [fup_o (by omega), q_uo (by decide), q_uo (by decide), q_uo (by decide)]; exact x1.dn v hv
        · rw [fup_o (by omega), q_uo (by decide), q_uo (by decide), q_uo (by decide)]; exact x1.ms v hv
        · rw [fup_o (by omega), q_uo (by decide), q_uo (by decide), q_uo (by decide)]; exact x1.la v hv
        · rw [fup_o (by omega), q_uo (by decide), q_uo (by decide), q_uo (by decide)]; exact x1.lo v q hv hq
        · rw [q_us]
          congr 1
          have := cg (-2)
          rw [e0r, if_neg (nI_m2 (by omega)), fup_s, if_pos rfl] at this
          omega
        · rw [q_uo (by decide), q_uo (by decide)]
          have := cg (nI u)
          rw [e0r, fup_s, if_neg (show ¬ (-2 : Int32) = nI u from fun z => nI_m2 (show u < 2147483648 by omega) z.symm)] at this
          by_cases w : u = r
          · subst w
            rw [if_pos rfl] at this
            rw [q_us]
            congr 1
            omega
          · rw [if_neg (by rw [q_eqN (by omega) (by omega)]; omega)] at this
            rw [q_uj w, x1.ins u hu]
            congr 1
            omega
        · rw [q_uo (by decide), q_uo (by decide), q_uo (by decide), hA1, a0, aV_o (Or.inr fup_s)]; rfl
        · rw [q_uo (by decide), q_uo (by decide), q_uo (by decide)]; exact hh1 q hq
      · obtain ⟨b1, b2⟩ := hA ▸ aimF_p (hA ▸ a0)
        have pc := (hb.pc A b1).1
        have va : vNo A = nI A := if_neg a0
        rw [va, if_neg (nI_m1 (by omega)), q_g hv30 (by decide), q_g hv30 (by decide), hA1, va, q_g (show A < 8 by omega) (by decide), (hx1.pc A b1).1, x1.pl v hv, e0r, x1.dn v hv, e3] at hC
        rw [if_neg a0]
        by_cases t0 : h (40 + 2 * A) = r
        · obtain ⟨s', f1, f2, f3, f4⟩ := s_xlook hb hx1 x1 hh1 hv b1
          have hk := SVl_V f4
          rw [if_pos (by rw [t0]), q_g hv30 (by decide), hA1, va, f1, q_bV] at hC
          rw [if_pos t0]
          obtain ⟨a2, g1, g2, g3, g4⟩ := s_reaim hb hD hl (hx1.v hk) (hw1.v hk) f2 hv hr (by rw [(lookC_pl h mt c1 hd v A).1, e0r]) (dn := c (14 * v + 3)) (by rw [f4 k 23 v (fun z => by have := z.2; omega), hA1, hA])
          have k3 : kq (SV k v) s' a2 := kq_mono g4 (fun k' o j z => ⟨z.1, by have := z.2; omega⟩)
          have hC2 := hC.trans g1
          rw [hC2, q_bV] at hX
          refine ⟨a2, hX, g2, xa1.st (fun i hi => lookC_o h mt c1 hd (by omega) hi) (kq_tr hk k3) g3, fun q hq => ?_, kq_tr k1 (kq_tr hk k3)⟩
          rw [g4 k 27 q (fun z => by have := z.2; omega)]; exact f3 q hq
        · have nx := nxr_lt hb hD hr pc b2 (fun q => t0 q.symm)
          have nn := nxr_ne hb hD (t := h (40 + 2 * A)) hr nx
          have hE := s_xenter hb hD hx1 hw1 hl x1 hv nx
          rw [if_neg (by rw [q_eqN (by omega) (by omega)]; exact t0), q_gx (n := r * 6 + h (40 + 2 * A)) (by rw [q_lit, q_mul, q_add]) (by omega) (by decide), hw1.2 _ _ hr pc, show vNo (nxr D (h 2) r (h (40 + 2 * A))) = nI (nxr D (h 2) r (h (40 + 2 * A))) from if_neg (by omega), hE] at hC
          rw [if_neg t0]
          generalize hN : nxr D (h 2) r (h (40 + 2 * A)) = N at nx nn hC ⊢
          unfold entC
          by_cases p3 : cnt c1 (nI N) (h 6) < h (7 + N)
          · rw [if_pos p3, q_bI, if_neg (by decide), q_g (show r < 6 by omega) (by decide), q_g (show r < 6 by omega) (by decide), q_w, q_g hv30 (by decide)] at hC
            have r25 : mx_up (mx_up (mx_up a1 k 25 N (nI (cnt c1 (nI N) (h 6) + 1))) k 18 v (nI N)) k 23 v (vNo (aimF h D (lw (gO h v)) N (c1 (14 * v + 3)))) k 25 r = nI (cnt c1 (nI r) (h 6)) := by
              rw [q_uo (by decide), q_uo (by decide), q_uj (fun z => nn z.symm)]; exact x1.ins r hr
            rw [r25, show (1 : Int32) = nI 1 from rfl, q_sub cp] at hC
            have r21 : mx_up (mx_up (mx_up (mx_up a1 k 25 N (nI (cnt c1 (nI N) (h 6) + 1))) k 18 v (nI N)) k 23 v (vNo (aimF h D (lw (gO h v)) N (c1 (14 * v + 3))))) k 25 r (nI (cnt c1 (nI r) (h 6) - 1)) k 21 v = c (14 * v + 3) := by
              rw [q_uo (by decide), q_uo (by decide), q_uo (by decide), q_uo (by decide), x1.dn v hv, e3]
            rw [if_pos r21] at hC
            rw [if_pos p3]
            rw [hC, q_bV] at hX
            have o2 : ∀ i, i < 14 * v ∨ 14 * v + 14 ≤ i → fup c1 (14 * v) (nI N) i = c1 i := fun i hi => fup_o (by omega)
            have k2 : kq (SV k v) a1 (mx_up (mx_up (mx_up (mx_up a1 k 25 N (nI (cnt c1 (nI N) (h 6) + 1))) k 18 v (nI N)) k 23 v (vNo (aimF h D (lw (gO h v)) N (c1 (14 * v + 3))))) k 25 r (nI (cnt c1 (nI r) (h 6) - 1))) := kq_up (kq_up (kq_up (kq_up kq_rf ⟨rfl, by omega⟩) ⟨rfl, by omega⟩) ⟨rfl, by omega⟩) ⟨rfl, by omega⟩
            have cg := fun z => cnt_go (x := z) hv o2
            dsimp only
            refine ⟨_, hX, x1.st hb hv o2 k2 ?_ ?_ ?_ ?_ ?_ ?_ (fun q hq => ?_) ?_ (fun u hu => ?_), xa1.st o2 k2 ?_, fun q hq => ?_, kq_tr k1 k2⟩
            · rw [fup_s, q_uo (by decide), q_uo (by decide), q_us]
            · rw [fup_o (by omega), q_uo (by decide), q_uo (by decide), q_uo (by decide), q_uo (by decide)]; exact x1.pa v hv
            · rw [fup_o (by omega), q_uo (by decide), q_uo (by decide), q_uo (by decide), q_uo (by decide)]; exact x1.sa v hv
            · rw [fup_o (by omega), q_uo (by decide), q_uo (by decide), q_uo (by decide), q_uo (by decide)]; exact x1.dn v hv
            · rw [fup_o (by omega), q_uo (by decide), q_uo (by decide), q_uo (by decide), q_uo (by decide)]; exact x1.ms v hv
            · rw [fup_o (by omega), q_uo (by decide), q_uo (by decide), q_uo (by decide), q_uo (by decide)]; exact x1.la v hv
            · rw [fup_o (by omega), q_uo (by decide), q_uo (by decide), q_uo (by decide), q_uo (by decide)]; exact x1.lo v q hv hq
            · rw [q_uo (by decide), q_uo (by decide), q_uo (by decide), q_uo (by decide), x1.ou]
              congr 1
              have := cg (-2)
              rw [e0r, if_neg (nI_m2 (by omega)), fup_s, if_neg (nI_m2 (by omega))] at this
              omega
            · have := cg (nI u)
              rw [e0r, fup_s] at this
              by_cases w : u = r
              · subst w
                rw [if_pos rfl, if_neg (by rw [q_eqN (by omega) (by omega)]; exact nn)] at this
                rw [q_us]
                congr 1
                omega
              · rw [if_neg (show ¬ nI r = nI u by rw [q_eqN (by omega) (by omega)]; omega)] at this
                rw [q_uj w, q_uo (by decide), q_uo (by decide)]
                by_cases w2 : u = N
                · subst w2
                  rw [if_pos rfl] at this
                  rw [q_us]
                  congr 1
                  omega
                · rw [if_neg (by rw [q_eqN (by omega) (by omega)]; omega)] at this
                  rw [q_uj w2, x1.ins u hu]
                  congr 1
                  omega
            · rw [q_uo (by decide), q_us, aV_r (r := N) (by omega) fup_s, fup_o (show 14 * v + 3 ≠ 14 * v by omega)]
            · rw [q_uo (by decide), q_uo (by decide), q_uo (by decide), q_uo (by decide)]; exact hh1 q hq
          · obtain ⟨s', f1, f2, f3⟩ := s_xwait hb x1 hv (aim := A) (by rw [hA1]) (Or.inr ⟨by omega, by rw [e0r]; exact nI_m1 (by omega)⟩)
            have hk := SVw_V f3
            rw [if_neg p3, q_bI, if_pos rfl, f1, q_bV] at hC
            rw [if_neg p3]
            have pl0 : waitC c1 v A (14 * v) = nI r := by
              unfold waitC
              split
              · rw [fup_o (by omega), fup_o (by omega), fup_o (by omega)]; exact e0r
              · rw [fup_o (by omega), fup_o (by omega)]; exact e0r
            obtain ⟨a2, g1, g2, g3, g4⟩ := s_reaim hb hD hl (hx1.v hk) (hw1.v hk) f2 hv hr pl0 (dn := c (14 * v + 3)) (by rw [f3 k 23 v (fun z => by have := z.2; omega), hA1, hA])
            have k3 : kq (SV k v) s' a2 := kq_mono g4 (fun k' o j z => ⟨z.1, by have := z.2; omega⟩)
            have hC2 := hC.trans g1
            rw [hC2, q_bV] at hX
            refine ⟨a2, hX, g2, xa1.st (fun i hi => waitC_o c1 hi) (kq_tr hk k3) g3, fun q hq => ?_, kq_tr k1 (kq_tr hk k3)⟩
            rw [g4 k 27 q (fun z => by have := z.2; omega), f3 k 27 q (fun z => by have := z.2; omega)]; exact hh1 q hq
/-- what a minute may change -/
def SX (k k' o j : Nat) : Prop := k' = k ∧ ((o = 16 ∧ (j = 2 ∨ j = 3)) ∨ (18 ≤ o ∧ o ≤ 27))
theorem SV_X {k v : Nat} {a a' : mx_S} (e : kq (SV k v) a a') : kq (SX k) a a' := kq_mono e (fun k' o j q => ⟨q.1, by have := q.2; omega⟩)
theorem XP.x {k : Nat} {h mt lw : Nat → Nat} {a a' : mx_S} (x : XP k h mt lw a) (e : kq (SX k) a a') : XP k h mt lw a' := x.k (fun o j h1 h2 => e k o j (fun q => by have := q.2; omega))
theorem XW.x {k n : Nat} {D : Nat → Nat → Nat} {a a' : mx_S} (x : XW k n D a) (e : kq (SX k) a a') : XW k n D a' := ⟨fun y z hy hz => by rw [e k 14 _ (fun q => by have := q.2; omega)]; exact x.1 y z hy hz, fun y z hy hz => by rw [e k 15 _ (fun q => by have := q.2; omega)]; exact x.2 y z hy hz⟩
theorem s_xmin7 {k : Nat} {h mt lw : Nat → Nat} (hb : HB h) (h1 : 1 ≤ h 2) {D : Nat → Nat → Nat} (hD : DS h D) (hl : ∀ g, g < h 5 → lw g ≤ 2) {c : Cr} (cb : CB h c) : ∀ (d v : Nat) (a : mx_S), v + d = h 6 → XP k h mt lw a → XW k (h 2) D a → XB k h (mnS h mt lw D c v).1 a → XA k h lw D (mnS h mt lw D c v).1 a → (∀ q, q < 8 → a k 27 q = (mnS h mt lw D c v).2 q) → ∃ a', mx_H 29 7 [some (mx_R k 16), some (mx_I (nI v))] a = some (none, a') ∧ XB k h (minC h mt lw D c) a' ∧ XA k h lw D (minC h mt lw D c) a' ∧ kq (SX k) a a' := by
  have h6 := hb.r6
  intro d
  induction d with
  | zero =>
    intro v a hd hx hw x xa hh
    have ev : v = h 6 := by omega
    subst ev
    have hX := e_C_passMinute_7 k (nI (h 6)) a
    rw [hx.f17, if_pos ((q_leN (by omega) (by omega)).mpr (Nat.le_refl _)), q_w, x.mn] at hX
    have o : ∀ i, i < 420 → minC h mt lw D c i = (mnS h mt lw D c (h 6)).1 i := fun i hi => fup_o (by omega)
    have cc : ∀ z, cnt (minC h mt lw D c) z (h 6) = cnt (mnS h mt lw D c (h 6)).1 z (h 6) := fun z => cnt_c _ (fun v hv => o _ (by omega))
    refine ⟨_, hX, ⟨?_, ?_, fun v hv => ?_, fun v hv => ?_, fun v hv => ?_, fun v hv => ?_, fun v hv => ?_, fun v hv => ?_, fun v hv => ?_, fun v p hv hp => ?_, fun r hr => ?_⟩, fun v hv => ?_, kq_up kq_rf ⟨rfl, by omega⟩⟩
    · rw [q_us]; exact fup_s.symm
    · rw [q_uj (by decide), cc]; exact x.ou
    · rw [q_uo (by decide)]; exact x.gr v hv
    · rw [q_uo (by decide), o _ (by omega)]; exact x.pl v hv
    · rw [q_uo (by decide), o _ (by omega)]; exact x.pa v hv
    · rw [q_uo (by decide), o _ (by omega)]; exact x.sa v hv
    · rw [q_uo (by decide), o _ (by omega)]; exact x.dn v hv
    · rw [q_uo (by decide), o _ (by omega)]; exact x.ms v hv
    · rw [q_uo (by decide), o _ (by omega)]; exact x.la v hv
    · rw [q_uo (by decide), o _ (by omega)]; exact x.lo v p hv hp
    · rw [q_uo (by decide), cc]; exact x.ins r hr
    · rw [q_uo (by decide), xa v hv]
      unfold aV
      rw [o _ (by omega), o _ (by omega)]
  | succ d ih =>
    intro v a hd hx hw x xa hh
    obtain ⟨a1, f1, f2, f3, f4, f5⟩ := s_xgo hb h1 hD hl hx hw (CB.mn hb h1 hD cb v (by omega)) x xa hh (show v < h 6 by omega)
    obtain ⟨a', g1, g2, g3, g4⟩ := ih (v + 1) a1 (by omega) (hx.v f5) (hw.v f5) f2 f3 f4
    exact ⟨a', f1.trans g1, g2, g3, kq_tr (SV_X f5) g4⟩
/-- X's minute is minC -/
theorem s_xminute {k : Nat} {h mt lw : Nat → Nat} (hb : HB h) (h1 : 1 ≤ h 2) {D : Nat → Nat → Nat} (hD : DS h D) (hl : ∀ g, g < h 5 → lw g ≤ 2) {a : mx_S} {c : Cr} (cb : CB h c) (hx : XP k h mt lw a) (hw : XW k (h 2) D a) (x : XB k h c a) (xa : XA k h lw D c a) : ∃ a', mx_sem 29 [mx_R k 16] a = some (none, a') ∧ XB k h (minC h mt lw D c) a' ∧ XA k h lw D (minC h mt lw D c) a' ∧ kq (SX k) a a' := by
  have k1 : kq (SX k) a (mx_fl a k 27 0 8 0) := kq_fl kq_rf (fun j => ⟨rfl, by omega⟩)
  have e : ∀ o j, o ≠ 27 → mx_fl a k 27 0 8 0 k o j = a k o j := fun o j ho => by rw [q_flo ho]
  obtain ⟨a', g1, g2, g3, g4⟩ := s_xmin7 hb h1 hD hl cb (h 6) 0 (mx_fl a k 27 0 8 0) (by omega) (hx.x k1) (hw.x k1) ⟨by rw [e _ _ (by decide)]; exact x.mn, by rw [e _ _ (by decide)]; exact x.ou, fun v hv => by rw [e _ _ (by decide)]; exact x.gr v hv, fun v hv => by rw [e _ _ (by decide)]; exact x.pl v hv, fun v hv => by rw [e _ _ (by decide)]; exact x.pa v hv, fun v hv => by rw [e _ _ (by decide)]; exact x.sa v hv, fun v hv => by rw [e _ _ (by decide)]; exact x.dn v hv, fun v hv => by rw [e _ _ (by decide)]; exact x.ms v hv, fun v hv => by rw [e _ _ (by decide)]; exact x.la v hv, fun v p hv hp => by rw [e _ _ (by decide)]; exact x.lo v p hv hp, fun r hr => by rw [e _ _ (by decide)]; exact x.ins r hr⟩ (fun v hv => by rw [e _ _ (by decide)]; exact xa v hv) (fun q hq => by rw [q_fl, if_pos ⟨rfl, rfl, by omega, by omega⟩]; rfl)
  refine ⟨a', ?_, g2, g3, kq_tr k1 g4⟩
  rw [e_C_passMinute, s_fill k 27 0 a (by decide) (by decide) (by decide), q_bV]
  exact g1
