/-! ===== pictures and groups, read by both ===== -/
def QP (i : Nat) (h : Nat → Nat) : Prop := h 4 = i ∧ 1 ≤ h 2 ∧ h 5 = 0
noncomputable def XLp (i : Nat) (a : mx_S) : Option mx_Rt := mx_H 60 3 [some (mx_R 0 29), some (mx_I (nI i)), none, none] a
noncomputable def MLp (b : mx_S) : Option mx_Rt := mx_H 174 45 [some (mx_R 0 39), none] b
noncomputable def MLg (b : mx_S) : Option mx_Rt := mx_H 174 57 [some (mx_R 0 39), none] b
noncomputable def MLg0 (b : mx_S) : Option mx_Rt := mx_bV none (mx_sem 167 [mx_R 0 39, mx_J 444301538672] b) MLg
theorem pc_end {i : Nat} {a : mx_S} (h6 : i < 9) {a1 a2 a3 a4 : mx_S} {x y : Int32} (hw : mx_sem 52 [mx_R 0 29, mx_R 4 55] a = some (some (mx_I 1), a) ∨ i = 0) (h1 : mx_sem 54 [mx_R 0 29, mx_R 4 55, mx_I (nI i), mx_I (nI 8)] a = some (none, a1)) (h7 : a1 0 29 7 = 1) (h2 : mx_sem 55 [mx_R 0 29, mx_I 0, mx_I (a1 1 1 2 - 1)] a1 = some (some (mx_I x), a2)) (h3 : mx_sem 55 [mx_R 0 29, mx_I 1, mx_I 60] a2 = some (some (mx_I y), a3)) (h4 : mx_sem 56 [mx_R 0 29] a3 = some (none, a4)) : XLp i a = if a4 0 29 3 = 0 then (if a4 0 29 7 = 0 then none else (mx_bV none (mx_sem 45 [mx_R 1 1, mx_I x, mx_I y] a4) fun s5 => XLp (i + 1) s5)) else XLp (i + 1) a4 := by
  unfold XLp
  rw [show nI 8 = (8 : Int32) from rfl] at h1
  have n7 : ¬ a1 0 29 7 = 0 := by rw [h7]; decide
  rw [e_R_readPictures_3, if_neg (by rw [q_lit, q_ltN (by decide) (by omega)]; omega)]
  by_cases hi : i = 0
  · subst hi
    rw [if_pos (by decide), h1, q_bV, if_neg n7, h2, q_bI, h3, q_bI, h4, q_bV]
    rfl
  · have hw := hw.resolve_right hi
    rw [if_neg (by rw [q_lit, q_eqN (by omega) (by decide)]; exact hi), hw, q_bI, if_neg (by decide), h1, q_bV, if_neg n7, h2, q_bI, h3, q_bI, h4, q_bV, nI_1]
theorem pc_body {n : Nat} {tb : Nat → Nat} {a0 b0 : mx_S} (htb : ∀ j, tb j < 256) (i st : Nat) (a b : mx_S) (hi : i ≤ 8) (hr : RS n tb a0 b0 (QP i) 0 st a b) (hw : wdB tb n st 4 = true) : ∃ f' st' a' b', XLp i a = XLp (i + 1) a' ∧ MLp b = MLp b' ∧ RS n tb a0 b0 (QP (i + 1)) f' st' a' b' := by
  obtain ⟨h, p, hq, hq2, hq5⟩ := hr.pl rfl
  obtain ⟨a1, b1, f1, x1, y1, ⟨st1, g1, k1, l1⟩, z1⟩ := p_begin htb (k := 4) (by decide) hw hr.rd (srt := 4) (by decide) (by rw [p.m 4 (by decide), hq]) hi (by decide)
  have p1 := p.k k1 l1
  have hr1 := hr.go (Q' := fun _ => True) g1 k1 l1 (fun _ => ⟨h, p1, trivial⟩)
  obtain ⟨x, y, a2, b2, f2, x2, y2, ⟨st2, g2, k2, l2⟩, z2, w2⟩ := p_num2 htb 0 (a1 1 1 2 - 1) (b1 0 44 2 - 1) g1 (fun _ => by rw [p1.m 2 (by decide), p1.x.f2])
  obtain ⟨x', y', a3, b3, f3, x3, y3, ⟨st3, g3, k3, l3⟩, z3, w3⟩ := p_num htb 1 60 g2
  obtain ⟨a4, b4, f4, x4, y4, ⟨st4, g4, k4, l4⟩, z4⟩ := p_sign htb g3
  have kX := kq_tr (kq_tr (kq_tr k1 k2) k3) k4
  have kM := kq_tr (kq_tr (kq_tr l1 l2) l3) l4
  have hX := pc_end (by omega) (Or.inl (x_is1 htb (by decide) hw hr.rd)) x1 hr1.fl x2 x3 x4
  have hM : MLp b = _ := e_M_house_45 b
  rw [s_name htb hr.rd, q_bJ, if_pos ((nm_cmp (k := 4) (by decide) (by rfl)).mpr ⟨rfl, hw⟩), e_M_readPicture] at hM
  rw [show nI 4 = (4 : Int32) from rfl, show nI 8 = (8 : Int32) from rfl] at y1
  rw [y1, q_bV, q_gl (by decide) (by decide), y2, q_bI, y3, q_bI, y4, q_bV] at hM
  have p4 := p.k kX kM
  have hr4 := hr.go (Q' := fun _ => True) g4 kX kM (fun _ => ⟨h, p4, trivial⟩)
  by_cases hf : f4 = 0
  · subst hf
    have e3 : f3 = 0 := Classical.byContradiction fun q => z4 q rfl
    subst e3
    have e2 : f2 = 0 := Classical.byContradiction fun q => z3 q rfl
    subst e2
    have e1 : f1 = 0 := Classical.byContradiction fun q => z2 q rfl
    subst e1
    obtain ⟨u, rfl, rfl, u1, u2, u3, -, -⟩ := w2 rfl
    obtain ⟨v, rfl, rfl, v1, v2, v3, -, -⟩ := w3 rfl
    have hb2 := p.g.r2
    rw [p1.x.f2, q_pre hq2 (by omega)] at u2
    have v1 : 1 ≤ v := by have : (1 : Int32).toInt = 1 := rfl; omega
    have v2 : v ≤ 60 := by have : (60 : Int32).toInt = 60 := rfl; omega
    have hi8 := z1 rfl
    have pr := p4.pic (by omega) (show u < h 2 by omega) v1 v2
    have ediv : (2 : Int32) + nI v / 10 = nI (2 + v / 10) := by
      rw [q_lit, q_lit, pk_div (by omega) (by decide) (by decide), q_add]
    rw [if_pos g4.fx.1, if_neg (by rw [hr4.fl]; decide), e_P_addPicture, p4.x.f8, if_neg (by rw [q_lit, q_leN (by decide) (by omega)]; omega), q_g (by omega) (by decide), q_w, q_uo (by decide), p4.x.f8, q_g (by omega) (by decide), q_w, q_uo (by decide), q_uo (by decide), p4.x.f8, show (10 : Int32) = nI 10 from rfl, q_d (by decide) (by decide), q_g (by omega) (by decide), q_w, q_w, q_uo (by decide), q_uo (by decide), q_uo (by decide), p4.x.f8, nI_1, q_bV, show nI 10 = (10 : Int32) from rfl, ediv] at hX
    rw [if_pos g4.fx.2, q_gl (by decide) (by decide), p4.m 4 (by decide), show (40 : Int32) + 2 * nI (h 4) = nI (40 + 2 * h 4) by rw [q_lit, q_lit, q_mul, q_add], q_g (by omega) (by decide), q_w, q_gl (by decide) (by decide), q_uj (by show 4 ≠ 40 + 2 * h 4; omega), p4.m 4 (by decide), show (40 : Int32) + 2 * nI (h 4) = nI (40 + 2 * h 4) by rw [q_lit, q_lit, q_mul, q_add], nI_1, q_g (by omega) (by decide), q_w, q_gl (by decide) (by decide), q_gl (by decide) (by decide), q_w, q_uj (by show 4 ≠ 40 + 2 * h 4 + 1; omega), q_uj (by show 4 ≠ 40 + 2 * h 4; omega), p4.m 4 (by decide), nI_1, q_bV] at hM
    refine ⟨0, st4, _, _, hX, hM, ?_, ?_, ?_, ?_, fun _ => ⟨_, pr, ?_⟩⟩
    · refine (g4.X ?_).M ?_
      · intro k o j h1 h2
        rw [q_uo (by omega), q_uo (by omega), q_uo (by omega), q_uo (by omega)]
      · intro k o j h1
        rw [q_uo (by omega), q_uo (by omega), q_uo (by omega)]
    · rw [q_uo (by decide), q_uo (by decide), q_uo (by decide), q_uo (by decide)]; exact hr4.fl
    · exact kq_up (kq_up (kq_up (kq_up hr4.kX (Or.inr (by omega))) (Or.inr (by omega))) (Or.inr (by omega))) (Or.inr (by omega))
    · exact kq_up (kq_up (kq_up hr4.kM (Or.inr rfl)) (Or.inr rfl)) (Or.inr rfl)
    · refine ⟨by rw [uf_s, hq], ?_, ?_⟩
      · rw [uf_o (by omega), uf_o (by omega), uf_o (by omega)]; exact hq2
      · rw [uf_o (by omega), uf_o (by omega), uf_o (by omega)]; exact hq5
  · rw [if_neg (g4.f0 hf).1] at hX
    rw [if_neg (g4.f0 hf).2.1, q_bV] at hM
    exact ⟨f4, st4, a4, b4, hX, hM, hr.go g4 kX kM (fun q => absurd q hf)⟩
theorem pc_all {n : Nat} {tb : Nat → Nat} {a0 b0 : mx_S} (htb : ∀ j, tb j < 256) {f st : Nat} {a b : mx_S} (hr : RS n tb a0 b0 (QP 0) f st a b) : ∃ f' st' a' b' i', mx_sem 60 [mx_R 0 29] a = some (none, a') ∧ MLp0 b = MLg0 b' ∧ RS n tb a0 b0 (QP i') f' st' a' b' ∧ 1 ≤ i' := by
  rw [e_R_readPictures]
  refine rd_must (k := 4) (most := 8) htb (by decide) (by decide) (by rfl) QP (fun i h hb q => by have := hb.r4; have := q.1; omega) XLp MLp MLg0 ?_ ?_ ?_ (pc_body htb) ?_ hr
  · intro a
    rw [XLp, e_R_readPictures_3, if_pos (by decide)]
  · intro i a h1 h2 hw
    rw [XLp, e_R_readPictures_3, if_neg (by rw [q_lit, q_ltN (by decide) (by omega)]; omega), if_neg (by rw [q_lit, q_eqN (by omega) (by decide)]; omega), hw, q_bI, if_pos rfl]
  · intro f st a b h hc
    rw [MLp, e_M_house_45, s_name htb h, q_bJ, if_neg (by rw [nm_cmp (k := 4) (by decide) (by rfl)]; exact hc)]; rfl
  · intro f st a a1 b1 h1 hr hf h7
    rw [pc_end (by decide) (Or.inr rfl) h1 h7 (x_numF hr hf _ _) (x_numF hr hf _ _) (x_signF hr hf), if_neg (hr.f0 hf).1]
/-! groups -/
def QG (i : Nat) (h : Nat → Nat) : Prop := h 5 = i ∧ 1 ≤ h 2 ∧ 1 ≤ h 4
noncomputable def XLg (i : Nat) (a : mx_S) : Option mx_Rt := mx_H 62 3 [some (mx_R 0 29), some (mx_I (nI i)), none, none, none, none] a
noncomputable def GEm (r4 r6 r10 r12 : Int32) (s : mx_S) : Option mx_Rt := if (s 0 39 18) = 0 then (mx_g none 5 80 fun j14 => mx_g none (((56 : Int32)) + (((4 : Int32)) * (s 0 44 j14))) 80 fun j15 => mx_w (mx_up s 0 44 j15 r4) fun s16 => mx_g none ((((56 : Int32)) + (((4 : Int32)) * (s 0 44 j14))) + 1) 80 fun j17 => mx_w (mx_up s16 0 44 j17 r6) fun s18 => mx_g none ((((56 : Int32)) + (((4 : Int32)) * (s 0 44 j14))) + 2) 80 fun j19 => mx_w (mx_up s18 0 44 j19 r10) fun s20 => mx_g none ((((56 : Int32)) + (((4 : Int32)) * (s 0 44 j14))) + 3) 80 fun j21 => mx_w (mx_up s20 0 44 j21 r12) fun s22 => mx_g none 5 80 fun j23 => mx_g none 5 80 fun j24 => mx_w (mx_up s22 0 44 j24 ((s22 0 44 j23) + 1)) fun s25 => mx_g none 6 80 fun j26 => mx_g none 6 80 fun j27 => mx_w (mx_up s25 0 44 j27 ((s25 0 44 j26) + r4)) fun s28 => some (none, s28)) else (some (none, s))
noncomputable def GNm (r4 r6 r10 : Int32) (s : mx_S) : Option mx_Rt := mx_bI none (mx_sem 164 [mx_R 0 39, mx_I 0, mx_I 20] s) fun r12 s11 => mx_bV none (mx_sem 165 [mx_R 0 39] s11) fun s13 => GEm r4 r6 r10 r12 s13
noncomputable def GTm (r4 : Int32) (s3 : mx_S) : Option mx_Rt := mx_bI none (mx_sem 164 [mx_R 0 39, mx_I 0, mx_I 60] s3) fun r6 s5 => mx_bJ none (mx_sem 163 [mx_R 0 39] s5) fun r8 s7 => mx_bI none (mx_sem 171 [mx_J r8] s7) fun r10 s9 => if (s9 0 39 18) = 0 then (if r10 = (-1000000) then (mx_bV none (mx_sem 132 [mx_R 0 39, mx_I 0] s9) fun s29 => GNm r4 r6 r10 s29) else (mx_bV none (mx_sem 132 [mx_R 0 39, mx_I 1] s9) fun s29 => GNm r4 r6 r10 s29)) else GNm r4 r6 r10 s9
theorem e_mgr (s : mx_S) : mx_sem 172 [mx_R 0 39] s = mx_bV none (mx_sem 133 [mx_R 0 39, mx_I 5, mx_I 6] s) fun s1 => mx_g none 6 80 fun j2 => mx_bI none (mx_sem 164 [mx_R 0 39, mx_I 1, mx_I (if 20 ≤ (((30 : Int32)) - (s1 0 44 j2)) then 20 else (((30 : Int32)) - (s1 0 44 j2)))] s1) fun r4 s3 => GTm r4 s3 := by
  rw [e_M_readGroup]
  congr 1
  funext s1
  congr 1
  funext j2
  split <;> rfl
theorem p_law {n : Nat} {tb : Nat → Nat} (htb : ∀ j, tb j < 256) {f st : Nat} {a b : mx_S} (h : RD n tb f st a b) : ∃ x y a' b' f', mx_sem 61 [mx_R 0 29] a = some (some (mx_I x), a') ∧ (∀ r4 r6, (mx_bJ none (mx_sem 163 [mx_R 0 39] b) fun r8 s7 => mx_bI none (mx_sem 171 [mx_J r8] s7) fun r10 s9 => if (s9 0 39 18) = 0 then (if r10 = (-1000000) then (mx_bV none (mx_sem 132 [mx_R 0 39, mx_I 0] s9) fun s29 => GNm r4 r6 r10 s29) else (mx_bV none (mx_sem 132 [mx_R 0 39, mx_I 1] s9) fun s29 => GNm r4 r6 r10 s29)) else GNm r4 r6 r10 s9) = GNm r4 r6 y b') ∧ Gn n tb a b a' b' f' ∧ (f ≠ 0 → f' ≠ 0) ∧ (f' = 0 → ∃ l, l ≤ 2 ∧ x = nI l ∧ y = nI l) := by
  have hn : mx_sem 163 [mx_R 0 39] b = some (some (mx_J (nmV tb n f st)), b) := s_name htb h
  have hl := e_M_lawOf (nmV tb n f st) b
  by_cases hf : f = 0
  · subst hf
    have c6 := nm_cmp (n := n) (tb := tb) (f := 0) (st := st) (k := 6) (by decide) (w := 439855772532) (by rfl)
    have c7 := nm_cmp (n := n) (tb := tb) (f := 0) (st := st) (k := 7) (by decide) (w := 1685217655) (by rfl)
    have c8 := nm_cmp (n := n) (tb := tb) (f := 0) (st := st) (k := 8) (by decide) (w := 491496238692) (by rfl)
    by_cases w6 : wdB tb n st 6 = true
    · obtain ⟨a', b', h1, h2, h3⟩ := h.nx htb
      refine ⟨0, 0, a', b', 0, ?_, fun r4 r6 => ?_, h3, fun q => q, fun _ => ⟨0, by decide, rfl, rfl⟩⟩
      · rw [e_R_takeLaw, x_is1 htb (by decide) w6 h, q_bI, if_neg (by decide), if_pos h.fx.1, if_pos h.fx.1, h1, q_bV]
      · rw [hn, q_bJ, hl, if_pos (c6.mpr ⟨rfl, w6⟩), q_bI, if_pos h.fx.2, if_neg (by decide), s_must1 h h2, q_bV]
    · have n6 : ¬ lg_cmp (nmV tb n 0 st) 439855772532 = 0 := fun q => w6 (c6.mp q).2
      by_cases w7 : wdB tb n st 7 = true
      · obtain ⟨a', b', h1, h2, h3⟩ := h.nx htb
        refine ⟨1, 1, a', b', 0, ?_, fun r4 r6 => ?_, h3, fun q => q, fun _ => ⟨1, by decide, rfl, rfl⟩⟩
        · rw [e_R_takeLaw, x_is0 htb (by decide) w6 h, q_bI, if_pos rfl, x_is1 htb (by decide) w7 h, q_bI, if_neg (by decide), if_pos h.fx.1, if_pos h.fx.1, h1, q_bV]
        · rw [hn, q_bJ, hl, if_neg n6, if_pos (c7.mpr ⟨rfl, w7⟩), q_bI, if_pos h.fx.2, if_neg (by decide), s_must1 h h2, q_bV]
      · have n7 : ¬ lg_cmp (nmV tb n 0 st) 1685217655 = 0 := fun q => w7 (c7.mp q).2
        by_cases w8 : wdB tb n st 8 = true
        · obtain ⟨a', b', h1, h2, h3⟩ := h.nx htb
          refine ⟨2, 2, a', b', 0, ?_, fun r4 r6 => ?_, h3, fun q => q, fun _ => ⟨2, by decide, rfl, rfl⟩⟩
          · rw [e_R_takeLaw, x_is0 htb (by decide) w6 h, q_bI, if_pos rfl, x_is0 htb (by decide) w7 h, q_bI, if_pos rfl, x_is1 htb (by decide) w8 h, q_bI, if_neg (by decide), if_pos h.fx.1, if_pos h.fx.1, h1, q_bV]
          · rw [hn, q_bJ, hl, if_neg n6, if_neg n7, if_pos (c8.mpr ⟨rfl, w8⟩), q_bI, if_pos h.fx.2, if_neg (by decide), s_must1 h h2, q_bV]
        · have n8 : ¬ lg_cmp (nmV tb n 0 st) 491496238692 = 0 := fun q => w8 (c8.mp q).2
          refine ⟨3, -1000000, _, _, 1, ?_, fun r4 r6 => ?_, ⟨st, h.bad 1 (by decide), bad_kX, bad_kM⟩, fun q => absurd rfl q, fun q => absurd q (by decide)⟩
          · rw [e_R_takeLaw, x_is0 htb (by decide) w6 h, q_bI, if_pos rfl, x_is0 htb (by decide) w7 h, q_bI, if_pos rfl, x_is0 htb (by decide) w8 h, q_bI, if_pos rfl, if_pos h.fx.1, q_w, if_neg (by rw [q_us]; decide)]; rfl
          · rw [hn, q_bJ, hl, if_neg n6, if_neg n7, if_neg n8, q_bI, if_pos h.fx.2, if_pos rfl, s_must0 h, q_bV]; rfl
  · refine ⟨3, (if (lg_cmp (nmV tb n f st) 439855772532) = 0 then 0 else if (lg_cmp (nmV tb n f st) 1685217655) = 0 then 1 else if (lg_cmp (nmV tb n f st) 491496238692) = 0 then 2 else -1000000), a, b, f, x_lawF htb h hf, fun r4 r6 => ?_, ⟨st, h, kq_rf, kq_rf⟩, fun _ => hf, fun q => absurd q hf⟩
    rw [hn, q_bJ, hl]
    split
    · rw [q_bI, if_neg (h.f0 hf).2.1]
    · split
      · rw [q_bI, if_neg (h.f0 hf).2.1]
      · split
        · rw [q_bI, if_neg (h.f0 hf).2.1]
        · rw [q_bI, if_neg (h.f0 hf).2.1]
