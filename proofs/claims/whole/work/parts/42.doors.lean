/-! ===== doors, read by both ===== -/
theorem p_num2 {n : Nat} {tb : Nat → Nat} (htb : ∀ j, tb j < 256) (lo hi hi' : Int32) {f st : Nat} {a b : mx_S} (h : RD n tb f st a b) (he : f = 0 → hi' = hi) : ∃ x y a' b' f', mx_sem 55 [mx_R 0 29, mx_I lo, mx_I hi] a = some (some (mx_I x), a') ∧ mx_sem 164 [mx_R 0 39, mx_I lo, mx_I hi'] b = some (some (mx_I y), b') ∧ Gn n tb a b a' b' f' ∧ (f ≠ 0 → f' ≠ 0) ∧ (f' = 0 → ∃ v : Nat, x = nI v ∧ y = nI v ∧ lo.toInt ≤ v ∧ v ≤ hi.toInt ∧ v < 1000 ∧ tkK tb n st = 2 ∧ v = fgV tb n st) := by
  by_cases hf : f = 0
  · rw [he hf]; exact p_num htb lo hi h
  · refine ⟨a 0 29 6, 0, a, b, f, x_numF h hf _ _, ?_, ⟨st, h, kq_rf, kq_rf⟩, fun _ => hf, fun q => absurd q hf⟩
    rw [e_M_number, if_neg (h.f0 hf).2.2]
def QD (i : Nat) (h : Nat → Nat) : Prop := h 3 = i ∧ 1 ≤ h 2 ∧ h 4 = 0 ∧ h 5 = 0
noncomputable def XLd (i : Nat) (a : mx_S) : Option mx_Rt := mx_H 59 3 [some (mx_R 0 29), some (mx_I (nI i)), none, none, none] a
noncomputable def DEx (x1 r r7 r9 : Int32) (s : mx_S) : Option mx_Rt := if (s 0 29 3) = 0 then (if s 0 29 7 = 0 then none else (mx_bV none (mx_sem 43 [mx_R 1 1, mx_I r, mx_I r7, mx_I r9] s) fun s11 => mx_H 59 3 [some (mx_R 0 29), some (mx_I (x1 + 1)), none, none, none] s11)) else (mx_H 59 3 [some (mx_R 0 29), some (mx_I (x1 + 1)), none, none, none] s)
noncomputable def DTx (x1 r : Int32) (s : mx_S) : Option mx_Rt := if s 0 29 7 = 0 then none else (mx_bI none (mx_sem 55 [mx_R 0 29, mx_I 0, mx_I ((s 1 1 2) - 1)] s) fun r7 s6 => mx_bI none (mx_sem 52 [mx_R 0 29, mx_R 3 55] s6) fun r9 s8 => if r9 = 0 then (mx_bV none (mx_sem 56 [mx_R 0 29] s8) fun s10 => DEx x1 r r7 r9 s10) else (mx_bV none (mx_sem 51 [mx_R 0 29] s8) fun s12 => mx_bV none (mx_sem 56 [mx_R 0 29] s12) fun s13 => DEx x1 r r7 r9 s13))
theorem e_rd3 (x1 : Int32) (s : mx_S) : mx_H 59 3 [some (mx_R 0 29), some (mx_I x1), none, none, none] s = if 9 < x1 then (some (none, s)) else (mx_bI none (mx_sem 52 [mx_R 0 29, mx_R 2 55] s) fun r2 s1 => if r2 = 0 then (some (none, s1)) else (mx_bV none (mx_sem 54 [mx_R 0 29, mx_R 2 55, mx_I x1, mx_I 9] s1) fun s3 => if s3 0 29 7 = 0 then none else (mx_bI none (mx_sem 55 [mx_R 0 29, mx_I 0, mx_I ((s3 1 1 2) - 1)] s3) fun r5 s4 => if (s4 0 29 3) = 0 then (if (s4 0 29 5) = 2 then (if (s4 0 29 6) = r5 then DTx x1 r5 (mx_up s4 0 29 3 2) else DTx x1 r5 s4) else DTx x1 r5 s4) else DTx x1 r5 s4))) := e_R_readDoors_3 x1 s
noncomputable def DEm (r r7 w : Int32) (s : mx_S) : Option mx_Rt := if (s 0 39 18) = 0 then (mx_g none 3 80 fun j11 => mx_g none (((13 : Int32)) + (((3 : Int32)) * (s 0 44 j11))) 80 fun j12 => mx_w (mx_up s 0 44 j12 r) fun s13 => mx_g none ((((13 : Int32)) + (((3 : Int32)) * (s 0 44 j11))) + 1) 80 fun j14 => mx_w (mx_up s13 0 44 j14 r7) fun s15 => mx_g none ((((13 : Int32)) + (((3 : Int32)) * (s 0 44 j11))) + 2) 80 fun j16 => mx_w (mx_up s15 0 44 j16 w) fun s17 => mx_g none 3 80 fun j18 => mx_g none 3 80 fun j19 => mx_w (mx_up s17 0 44 j19 ((s17 0 44 j18) + 1)) fun s20 => some (none, s20)) else (some (none, s))
noncomputable def DTm (r : Int32) (s : mx_S) : Option mx_Rt := mx_g none 2 80 fun j5 => mx_bI none (mx_sem 164 [mx_R 0 39, mx_I 0, mx_I ((s 0 44 j5) - 1)] s) fun r7 s6 => mx_bJ none (mx_sem 163 [mx_R 0 39] s6) fun r9 s8 => if (lg_cmp r9 7302757) = 0 then (mx_bV none (mx_sem 132 [mx_R 0 39, mx_I 1] s8) fun s21 => mx_bV none (mx_sem 165 [mx_R 0 39] s21) fun s22 => DEm r r7 1 s22) else (mx_bV none (mx_sem 165 [mx_R 0 39] s8) fun s10 => DEm r r7 0 s10)
theorem e_mrd (s : mx_S) : mx_sem 169 [mx_R 0 39] s = mx_bV none (mx_sem 133 [mx_R 0 39, mx_I 3, mx_I 9] s) fun s1 => mx_g none 2 80 fun j2 => mx_bI none (mx_sem 164 [mx_R 0 39, mx_I 0, mx_I ((s1 0 44 j2) - 1)] s1) fun r4 s3 => if (s3 0 39 18) = 0 then (if (s3 0 39 15) = 3 then (mx_bI none (mx_sem 159 [mx_R 0 39] s3) fun r62 s61 => if r62 = r4 then (mx_bV none (mx_sem 126 [mx_R 0 39, mx_I 2] s61) fun s91 => DTm r4 s91) else DTm r4 s61) else DTm r4 s3) else DTm r4 s3 := e_M_readDoor s
theorem q_pre {v : Nat} (h : 1 ≤ v) (h2 : v < 1000) : (nI v - 1).toInt = (v : Int) - 1 := by
  rw [q_lit, q_sub h, q_toI (by show v - 1 < _; omega)]
  show ((v - 1 : Nat) : Int) = _
  omega
/-- behind the first room's number -/
theorem dr_tail {n : Nat} {tb : Nat → Nat} {a0 b0 : mx_S} (htb : ∀ j, tb j < 256) (i f st : Nat) (a b : mx_S) (r r' : Int32) (hi : i < 10) (hr : RS n tb a0 b0 (QD i) f st a b) (hu : f = 0 → i < 9 ∧ ∃ u, r = nI u ∧ r' = nI u ∧ (∀ h, PI h a b → u < h 2) ∧ ¬ (tkK tb n st = 2 ∧ fgV tb n st = u)) : ∃ f' st' a' b', DTx (nI i) r a = XLd (i + 1) a' ∧ DTm r' b = some (none, b') ∧ RS n tb a0 b0 (QD (i + 1)) f' st' a' b' := by
  have he : f = 0 → (b 0 44 2) - 1 = (a 1 1 2) - 1 := fun q => by
    obtain ⟨h, p, -⟩ := hr.pl q
    rw [p.m 2 (by decide), p.x.f2]
  obtain ⟨x, y, a1, b1, f1, x1, y1, ⟨st1, g1, k1, l1⟩, z1, w1⟩ := p_num2 htb 0 (a 1 1 2 - 1) (b 0 44 2 - 1) hr.rd he
  have hX : DTx (nI i) r a = mx_bI none (mx_sem 52 [mx_R 0 29, mx_R 3 55] a1) fun r9 s8 => if r9 = 0 then (mx_bV none (mx_sem 56 [mx_R 0 29] s8) fun s10 => DEx (nI i) r x r9 s10) else (mx_bV none (mx_sem 51 [mx_R 0 29] s8) fun s12 => mx_bV none (mx_sem 56 [mx_R 0 29] s12) fun s13 => DEx (nI i) r x r9 s13) := by
    unfold DTx
    rw [if_neg (by rw [hr.fl]; decide), x1, q_bI]
  have hM : DTm r' b = mx_bJ none (mx_sem 163 [mx_R 0 39] b1) fun r9 s8 => if (lg_cmp r9 7302757) = 0 then (mx_bV none (mx_sem 132 [mx_R 0 39, mx_I 1] s8) fun s21 => mx_bV none (mx_sem 165 [mx_R 0 39] s21) fun s22 => DEm r' y 1 s22) else (mx_bV none (mx_sem 165 [mx_R 0 39] s8) fun s10 => DEm r' y 0 s10) := by
    unfold DTm
    rw [q_gl (by decide) (by decide), y1, q_bI]
  -- with or without the word
  have hmid : ∃ f3 st3 a3 b3 w, w ≤ 1 ∧ DTx (nI i) r a = DEx (nI i) r x (nI w) a3 ∧ DTm r' b = DEm r' y (nI w) b3 ∧ RD n tb f3 st3 a3 b3 ∧ kq SRX a1 a3 ∧ kq SRM b1 b3 ∧ (f1 ≠ 0 → f3 ≠ 0) := by
    by_cases hc : f1 = 0 ∧ wdB tb n st1 3 = true
    · obtain ⟨e, hw⟩ := hc
      subst e
      obtain ⟨a2, b2, x2, y2, ⟨st2, g2, k2, l2⟩⟩ := g1.nx htb
      obtain ⟨a3, b3, f3, x3, y3, ⟨st3, g3, k3, l3⟩, z3⟩ := p_sign htb g2
      refine ⟨f3, st3, a3, b3, 1, by decide, ?_, ?_, g3, kq_tr k2 k3, kq_tr l2 l3, fun q => absurd rfl q⟩
      · rw [hX, x_is1 htb (by decide) hw g1, q_bI, if_neg (by decide), x2, q_bV, x3, q_bV]; rfl
      · rw [hM, s_name htb g1, q_bJ, if_pos ((nm_cmp (k := 3) (by decide) (by rfl)).mpr ⟨rfl, hw⟩), s_must1 g1 y2, q_bV, y3, q_bV]; rfl
    · obtain ⟨a3, b3, f3, x3, y3, ⟨st3, g3, k3, l3⟩, z3⟩ := p_sign htb g1
      refine ⟨f3, st3, a3, b3, 0, by decide, ?_, ?_, g3, k3, l3, z3⟩
      · rw [hX, s_isWord htb (by decide) g1, if_neg hc, q_bI, if_pos rfl, x3, q_bV]; rfl
      · rw [hM, s_name htb g1, q_bJ, if_neg (by rw [nm_cmp (k := 3) (by decide) (by rfl)]; exact hc), y3, q_bV]; rfl
  obtain ⟨f3, st3, a3, b3, w, hw, hX3, hM3, g3, k3, l3, z3⟩ := hmid
  have kX := kq_tr k1 k3
  have kM := kq_tr l1 l3
  by_cases hf : f3 = 0
  · subst hf
    have e1 : f1 = 0 := Classical.byContradiction fun q => z3 q rfl
    subst e1
    have e0 : f = 0 := Classical.byContradiction fun q => z1 q rfl
    subst e0
    obtain ⟨h, p, hq, hq2, hq4, hq5⟩ := hr.pl rfl
    obtain ⟨hi9, u, rfl, rfl, hu1, hu2⟩ := hu rfl
    have hu1 := hu1 h p
    obtain ⟨v, rfl, rfl, v1, v2, v3, v4, v5⟩ := w1 rfl
    have hr2 := p.g.r2
    rw [p.x.f2, q_pre hq2 (by omega)] at v2
    have p3 := p.k kX kM
    have hr3 := hr.go (Q' := fun _ => True) g3 kX kM (fun _ => ⟨h, p3, trivial⟩)
    have pr := p3.door (by omega) hu1 (show v < h 2 by omega) (fun e => hu2 ⟨v4, by omega⟩) hw
    have hXe : DEx (nI i) (nI u) (nI v) (nI w) a3 = XLd (i + 1) (mx_up (mx_up (mx_up (mx_up a3 1 3 (h 3) (nI u)) 1 4 (h 3) (nI v)) 1 5 (h 3) (nI w)) 1 1 4 (nI (h 3 + 1))) := by
      unfold DEx XLd
      rw [if_pos g3.fx.1, if_neg (by rw [hr3.fl]; decide), e_P_addDoor, p3.x.f4, if_neg (by rw [q_lit, q_leN (by decide) (by omega)]; omega), q_g (by omega) (by decide), q_w, q_uo (by decide), p3.x.f4, q_g (by omega) (by decide), q_w, q_uo (by decide), q_uo (by decide), p3.x.f4, nI_1]
      by_cases e : w = 0
      · subst e
        rw [if_pos (by decide), q_g (by omega) (by decide), q_w, q_w, q_uo (by decide), q_uo (by decide), q_uo (by decide), p3.x.f4, nI_1, q_bV]; rfl
      · have e : w = 1 := by omega
        subst e
        rw [if_neg (by decide), q_g (by omega) (by decide), q_w, q_w, q_uo (by decide), q_uo (by decide), q_uo (by decide), p3.x.f4, nI_1, q_bV]; rfl
    have hMe : DEm (nI u) (nI v) (nI w) b3 = some (none, mx_up (mx_up (mx_up (mx_up b3 0 44 (13 + 3 * h 3) (nI u)) 0 44 (13 + 3 * h 3 + 1) (nI v)) 0 44 (13 + 3 * h 3 + 2) (nI w)) 0 44 3 (nI (h 3 + 1))) := by
      unfold DEm
      rw [if_pos g3.fx.2, q_gl (by decide) (by decide), p3.m 3 (by decide), q_lit, q_lit, q_mul, q_add, q_g (by show 13 + 3 * h 3 < _; omega) (by decide), q_w, nI_1, q_g (by show 13 + 3 * h 3 + 1 < _; omega) (by decide), q_w, q_lit, q_add, q_g (by show 13 + 3 * h 3 + 2 < _; omega) (by decide), q_w, q_g (by decide) (by decide), q_g (by decide) (by decide), q_w, q_uj (by show 3 ≠ 13 + 3 * h 3 + 2; omega), q_uj (by show 3 ≠ 13 + 3 * h 3 + 1; omega), q_uj (by show 3 ≠ 13 + 3 * h 3; omega), p3.m 3 (by decide), nI_1]
    refine ⟨0, st3, _, _, hX3.trans hXe, hM3.trans hMe, ?_, ?_, ?_, ?_, fun _ => ⟨_, pr, ?_⟩⟩
    · refine (g3.X ?_).M ?_
      · intro k o j h1 h2
        rw [q_uo (by omega), q_uo (by omega), q_uo (by omega), q_uo (by omega)]
      · intro k o j h1
        rw [q_uo (by omega), q_uo (by omega), q_uo (by omega), q_uo (by omega)]
    · rw [q_uo (by decide), q_uo (by decide), q_uo (by decide), q_uo (by decide)]; exact hr3.fl
    · exact kq_up (kq_up (kq_up (kq_up hr3.kX (Or.inr (by omega))) (Or.inr (by omega))) (Or.inr (by omega))) (Or.inr (by omega))
    · exact kq_up (kq_up (kq_up (kq_up hr3.kM (Or.inr rfl)) (Or.inr rfl)) (Or.inr rfl)) (Or.inr rfl)
    · refine ⟨by rw [uf_s, hq], ?_, ?_, ?_⟩
      · rw [uf_o (by omega), uf_o (by omega), uf_o (by omega), uf_o (by omega)]; exact hq2
      · rw [uf_o (by omega), uf_o (by omega), uf_o (by omega), uf_o (by omega)]; exact hq4
      · rw [uf_o (by omega), uf_o (by omega), uf_o (by omega), uf_o (by omega)]; exact hq5
  · refine ⟨f3, st3, a3, b3, hX3.trans ?_, hM3.trans ?_, hr.go g3 kX kM (fun q => absurd q hf)⟩
    · unfold DEx XLd
      rw [if_neg (g3.f0 hf).1, nI_1]
    · unfold DEm
      rw [if_neg (g3.f0 hf).2.1]
theorem dr_body {n : Nat} {tb : Nat → Nat} {a0 b0 : mx_S} (htb : ∀ j, tb j < 256) (i st : Nat) (a b : mx_S) (hi : i ≤ 9) (hr : RS n tb a0 b0 (QD i) 0 st a b) (hw : wdB tb n st 2 = true) : ∃ f' st' a' b', XLd i a = XLd (i + 1) a' ∧ MLd b = MLd b' ∧ RS n tb a0 b0 (QD (i + 1)) f' st' a' b' := by
  obtain ⟨h, p, hq, hq2, hq4, hq5⟩ := hr.pl rfl
  obtain ⟨a1, b1, f1, x1, y1, ⟨st1, g1, k1, l1⟩, z1⟩ := p_begin htb (k := 2) (by decide) hw hr.rd (srt := 3) (by decide) (by rw [p.m 3 (by decide), hq]) hi (by decide)
  have p1 := p.k k1 l1
  have hr1 : RS n tb a0 b0 (QD i) f1 st1 a1 b1 := hr.go g1 k1 l1 (fun _ => ⟨h, p1, hq, hq2, hq4, hq5⟩)
  obtain ⟨x, y, a2, b2, f2, x2, y2, ⟨st2, g2, k2, l2⟩, z2, w2⟩ := p_num2 htb 0 (a1 1 1 2 - 1) (b1 0 44 2 - 1) g1 (fun _ => by rw [p1.m 2 (by decide), p1.x.f2])
  have p2 := p1.k k2 l2
  have hr2 : RS n tb a0 b0 (QD i) f2 st2 a2 b2 := hr1.go g2 k2 l2 (fun _ => ⟨h, p2, hq, hq2, hq4, hq5⟩)
  rw [show nI 9 = (9 : Int32) from rfl] at x1 y1
  rw [show nI 3 = (3 : Int32) from rfl] at y1
  have hX : XLd i a = _ := e_rd3 (nI i) a
  rw [if_neg (by rw [q_lit, q_ltN (by decide) (by omega)]; omega), x_is1 htb (by decide) hw hr.rd, q_bI, if_neg (by decide), x1, q_bV, if_neg (by rw [hr1.fl]; decide), x2, q_bI] at hX
  have hM : MLd b = _ := e_M_house_33 b
  rw [s_name htb hr.rd, q_bJ, if_pos ((nm_cmp (k := 2) (by decide) (by rfl)).mpr ⟨rfl, hw⟩), e_mrd, y1, q_bV, q_gl (by decide) (by decide), y2, q_bI] at hM
  have fin : ∀ f3 st3 a3 b3, RS n tb a0 b0 (QD i) f3 st3 a3 b3 → (f3 = 0 → i < 9 ∧ ∃ u, x = nI u ∧ y = nI u ∧ (∀ h, PI h a3 b3 → u < h 2) ∧ ¬ (tkK tb n st3 = 2 ∧ fgV tb n st3 = u)) → XLd i a = DTx (nI i) x a3 → MLd b = mx_bV none (DTm y b3) MLd → ∃ f' st' a' b', XLd i a = XLd (i + 1) a' ∧ MLd b = MLd b' ∧ RS n tb a0 b0 (QD (i + 1)) f' st' a' b' := by
    intro f3 st3 a3 b3 hr3 hu hX hM
    obtain ⟨f', st', a', b', h1, h2, h3⟩ := dr_tail htb i f3 st3 a3 b3 x y (by omega) hr3 hu
    refine ⟨f', st', a', b', hX.trans h1, ?_, h3⟩
    rw [hM, h2, q_bV]
  by_cases hf : f2 = 0
  · subst hf
    have e1 : f1 = 0 := Classical.byContradiction fun q => z2 q rfl
    subst e1
    obtain ⟨u, rfl, rfl, u1, u2, u3, -, -⟩ := w2 rfl
    have hi9 := z1 rfl
    have hb2 := p.g.r2
    rw [p1.x.f2, q_pre hq2 (by omega)] at u2
    have h6 := g2.2.2.2.2.2.2.2.2.1
    have h7 := g2.2.2.2.2.2.2.2.2.2.1
    have h8 := g2.2.2.2.2.2.2.2.2.2.2.1
    have hK := tkK_le (tb := tb) (n := n) (st := st2)
    have hul : ∀ a' b' h', PI h' a' b' → kq SRX a2 a' → u < h' 2 := fun a' b' h' p' kk => by
      have e := (p2.x.k (a' := a') (fun o j h1 h2 => kk 1 o j (fun q => by have := q.1; omega))).f2
      rw [p'.x.f2, q_eqN (by have := p'.g.r2; omega) (by omega)] at e
      omega
    rw [if_pos g2.fx.1, h6] at hX
    rw [if_pos g2.fx.2, h7] at hM
    by_cases hk : tkK tb n st2 = 2
    · have e6 := h8 hk
      have hv := fgV_lt (tb := tb) (n := n) (st := st2)
      rw [show dv tb st2 (tkE tb n st2 - st2) = fgV tb n st2 by unfold fgV; rw [if_pos hk]] at e6
      rw [hk, if_pos (by decide), e6] at hX
      rw [hk, if_pos (by decide), s_figures htb g2, q_bI] at hM
      by_cases hs : fgV tb n st2 = u
      · have hb := g2.bad 2 (by decide)
        rw [if_pos (by rw [hs])] at hX
        rw [if_pos (by rw [hs]), s_bad0 g2, q_bV] at hM
        exact fin 2 st2 _ _ (hr2.go hb bad_kX bad_kM (fun q => absurd q (by decide))) (fun q => absurd q (by decide)) hX hM
      · rw [if_neg (by rw [q_eqN (by omega) (by omega)]; exact hs)] at hX hM
        exact fin 0 st2 a2 b2 hr2 (fun _ => ⟨hi9, u, rfl, rfl, fun h' p' => hul _ _ h' p' kq_rf, fun q => hs q.2⟩) hX hM
    · rw [if_neg (by rw [q_lit, q_eqN (by omega) (by decide)]; exact hk)] at hX
      rw [if_neg (by rw [q_lit, q_eqN (by unfold tkm; split <;> omega) (by decide)]; unfold tkm; split <;> omega)] at hM
      exact fin 0 st2 a2 b2 hr2 (fun _ => ⟨hi9, u, rfl, rfl, fun h' p' => hul _ _ h' p' kq_rf, fun q => hk q.1⟩) hX hM
  · rw [if_neg (g2.f0 hf).1] at hX
    rw [if_neg (g2.f0 hf).2.1] at hM
    exact fin f2 st2 a2 b2 hr2 (fun q => absurd q hf) hX hM
noncomputable def MLp0 (b : mx_S) : Option mx_Rt := mx_bV none (mx_sem 167 [mx_R 0 39, mx_J 31641073268126309] b) fun s3 => mx_H 174 45 [some (mx_R 0 39), none] s3
theorem dr_all {n : Nat} {tb : Nat → Nat} {a0 b0 : mx_S} (htb : ∀ j, tb j < 256) {f st : Nat} {a b : mx_S} (hr : RS n tb a0 b0 (QD 0) f st a b) : ∃ f' st' a' b' i', mx_sem 59 [mx_R 0 29] a = some (none, a') ∧ MLd b = MLp0 b' ∧ RS n tb a0 b0 (QD i') f' st' a' b' := by
  rw [e_R_readDoors]
  have hXe : ∀ a, XLd (9 + 1) a = some (none, a) := fun a => by rw [XLd, e_rd3, if_pos (by decide)]
  have hX0 : ∀ i a, 0 ≤ i → i ≤ 9 → mx_sem 52 [mx_R 0 29, mx_R 2 55] a = some (some (mx_I 0), a) → XLd i a = some (none, a) := fun i a h1 h2 hw => by
    rw [XLd, e_rd3, if_neg (by rw [q_lit, q_ltN (by decide) (by omega)]; omega), hw, q_bI, if_pos rfl]
  have hM : ∀ f st a b, RD n tb f st a b → ¬ (f = 0 ∧ wdB tb n st 2 = true) → MLd b = MLp0 b := fun f st a b h hc => by
    rw [MLd, e_M_house_33, s_name htb h, q_bJ, if_neg (by rw [nm_cmp (k := 2) (by decide) (by rfl)]; exact hc)]; rfl
  by_cases hc : f = 0 ∧ wdB tb n st 2 = true
  · obtain ⟨f', st', a', b', i', h1, h2, h3, -⟩ := rd_loop (k := 2) (most := 9) htb (by decide) QD (fun i h hb q => by have := hb.r3; have := q.1; omega) XLd MLd MLp0 hXe (fun i a h1 => hX0 i a (by omega)) hM (dr_body htb) 10 0 f st a b (by omega) (Or.inr hc) hr
    exact ⟨f', st', a', b', i', h1, h2, h3⟩
  · exact ⟨f, st, a, b, 0, hX0 0 a (by omega) (by omega) (by rw [s_isWord htb (by decide) hr.rd, if_neg hc]), hM f st a b hr.rd hc, hr⟩
