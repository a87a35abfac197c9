/-! ===== groups; all of a house, read by both ===== -/
theorem gr_end {i : Nat} {a : mx_S} (h6 : i < 7) {a1 a2 a3 a4 a5 a6 : mx_S} {x y z u hi : Int32} (hw : mx_sem 52 [mx_R 0 29, mx_R 5 55] a = some (some (mx_I 1), a) ∨ i = 0) (h1 : mx_sem 54 [mx_R 0 29, mx_R 5 55, mx_I (nI i), mx_I (nI 6)] a = some (none, a1)) (h7 : a1 0 29 7 = 1) (hh : hi = (if (((30 : Int32)) - (a1 1 1 17)) < ((20 : Int32)) then (((30 : Int32)) - (a1 1 1 17)) else ((20 : Int32)))) (h2 : mx_sem 55 [mx_R 0 29, mx_I 1, mx_I hi] a1 = some (some (mx_I x), a2)) (h3 : mx_sem 55 [mx_R 0 29, mx_I 0, mx_I 60] a2 = some (some (mx_I y), a3)) (h4 : mx_sem 61 [mx_R 0 29] a3 = some (some (mx_I z), a4)) (h5 : mx_sem 55 [mx_R 0 29, mx_I 0, mx_I 20] a4 = some (some (mx_I u), a5)) (h8 : mx_sem 56 [mx_R 0 29] a5 = some (none, a6)) : XLg i a = if a6 0 29 3 = 0 then (if a6 0 29 7 = 0 then none else (mx_bV none (mx_sem 44 [mx_R 1 1, mx_I x, mx_I y, mx_I z, mx_I u] a6) fun s5 => XLg (i + 1) s5)) else XLg (i + 1) a6 := by
  unfold XLg
  subst hh
  rw [show nI 6 = (6 : Int32) from rfl] at h1
  have n7 : ¬ a1 0 29 7 = 0 := by rw [h7]; decide
  rw [e_R_readGroups_3, if_neg (by rw [q_lit, q_ltN (by decide) (by omega)]; omega)]
  by_cases hi : i = 0
  · subst hi
    rw [if_pos (by decide), h1, q_bV, if_neg n7, h2, q_bI, h3, q_bI, h4, q_bI, h5, q_bI, h8, q_bV]
    rfl
  · have hw := hw.resolve_right hi
    rw [if_neg (by rw [q_lit, q_eqN (by omega) (by decide)]; exact hi), hw, q_bI, if_neg (by decide), h1, q_bV, if_neg n7, h2, q_bI, h3, q_bI, h4, q_bI, h5, q_bI, h8, q_bV, nI_1]
theorem gr_hi (x : Int32) : (if 20 ≤ ((30 : Int32) - x) then 20 else ((30 : Int32) - x)) = (if ((30 : Int32) - x) < (20 : Int32) then ((30 : Int32) - x) else (20 : Int32)) := by
  by_cases h : (30 : Int32) - x < 20
  · rw [if_pos h, if_neg (by rw [q_lt] at h; rw [q_le]; omega)]
  · rw [if_neg h, if_pos (by rw [q_lt] at h; rw [q_le]; omega)]
theorem gr_hi2 {v : Nat} (h : v ≤ 30) : (if ((30 : Int32) - nI v) < (20 : Int32) then ((30 : Int32) - nI v) else (20 : Int32)).toInt ≤ 20 ∧ (if ((30 : Int32) - nI v) < (20 : Int32) then ((30 : Int32) - nI v) else (20 : Int32)).toInt ≤ 30 - (v : Int) := by
  have e : ((30 : Int32) - nI v) = nI (30 - v) := by rw [q_lit, q_sub h]
  have e2 : (20 : Int32).toInt = 20 := rfl
  rw [e]
  split
  · rename_i h1
    rw [q_lt, q_toI (by omega), e2] at h1
    rw [q_toI (by omega)]
    omega
  · rename_i h1
    rw [q_lt, q_toI (by omega), e2] at h1
    rw [e2]
    omega
theorem gr_body {n : Nat} {tb : Nat → Nat} {a0 b0 : mx_S} (htb : ∀ j, tb j < 256) (i st : Nat) (a b : mx_S) (hi : i ≤ 6) (hr : RS n tb a0 b0 (QG i) 0 st a b) (hw : wdB tb n st 5 = true) : ∃ f' st' a' b', XLg i a = XLg (i + 1) a' ∧ MLg b = MLg b' ∧ RS n tb a0 b0 (QG (i + 1)) f' st' a' b' := by
  obtain ⟨h, p, hq, hq2, hq4⟩ := hr.pl rfl
  obtain ⟨a1, b1, f1, x1, y1, ⟨st1, g1, k1, l1⟩, z1⟩ := p_begin htb (k := 5) (by decide) hw hr.rd (srt := 5) (by decide) (by rw [p.m 5 (by decide), hq]) hi (by decide)
  have p1 := p.k k1 l1
  have hr1 := hr.go (Q' := fun _ => True) g1 k1 l1 (fun _ => ⟨h, p1, trivial⟩)
  obtain ⟨x, y, a2, b2, f2, x2, y2, ⟨st2, g2, k2, l2⟩, z2, w2⟩ := p_num2 htb 1 (if (((30 : Int32)) - (a1 1 1 17)) < ((20 : Int32)) then (((30 : Int32)) - (a1 1 1 17)) else ((20 : Int32))) (if 20 ≤ (((30 : Int32)) - (b1 0 44 6)) then 20 else (((30 : Int32)) - (b1 0 44 6))) g1 (fun _ => by rw [p1.m 6 (by decide), p1.x.f17, gr_hi])
  obtain ⟨x', y', a3, b3, f3, x3, y3, ⟨st3, g3, k3, l3⟩, z3, w3⟩ := p_num htb 0 60 g2
  obtain ⟨x'', y'', a4, b4, f4, x4, y4, ⟨st4, g4, k4, l4⟩, z4, w4⟩ := p_law htb g3
  obtain ⟨x3', y3', a5, b5, f5, x5, y5, ⟨st5, g5, k5, l5⟩, z5, w5⟩ := p_num htb 0 20 g4
  obtain ⟨a6, b6, f6, x6, y6, ⟨st6, g6, k6, l6⟩, z6⟩ := p_sign htb g5
  have kX := kq_tr (kq_tr (kq_tr (kq_tr (kq_tr k1 k2) k3) k4) k5) k6
  have kM := kq_tr (kq_tr (kq_tr (kq_tr (kq_tr l1 l2) l3) l4) l5) l6
  have hX := gr_end (by omega) (Or.inl (x_is1 htb (by decide) hw hr.rd)) x1 hr1.fl rfl x2 x3 x4 x5 x6
  have hM : MLg b = _ := e_M_house_57 b
  rw [s_name htb hr.rd, q_bJ, if_pos ((nm_cmp (k := 5) (by decide) (by rfl)).mpr ⟨rfl, hw⟩), e_mgr] at hM
  rw [show nI 5 = (5 : Int32) from rfl, show nI 6 = (6 : Int32) from rfl] at y1
  rw [y1, q_bV, q_gl (by decide) (by decide), y2, q_bI] at hM
  unfold GTm at hM
  rw [y3, q_bI, y4] at hM
  unfold GNm at hM
  rw [y5, q_bI, y6, q_bV] at hM
  unfold GEm at hM
  have p6 := p.k kX kM
  have hr6 := hr.go (Q' := fun _ => True) g6 kX kM (fun _ => ⟨h, p6, trivial⟩)
  by_cases hf : f6 = 0
  · subst hf
    have e5 : f5 = 0 := Classical.byContradiction fun q => z6 q rfl
    subst e5
    have e4 : f4 = 0 := Classical.byContradiction fun q => z5 q rfl
    subst e4
    have e3 : f3 = 0 := Classical.byContradiction fun q => z4 q rfl
    subst e3
    have e2 : f2 = 0 := Classical.byContradiction fun q => z3 q rfl
    subst e2
    have e1 : f1 = 0 := Classical.byContradiction fun q => z2 q rfl
    subst e1
    obtain ⟨u, rfl, rfl, u1, u2, u3, -, -⟩ := w2 rfl
    obtain ⟨v, rfl, rfl, v1, v2, v3, -, -⟩ := w3 rfl
    obtain ⟨l, l1, rfl, rfl⟩ := w4 rfl
    obtain ⟨z, rfl, rfl, z1', z2', z3', -, -⟩ := w5 rfl
    have hb6 := p.g.r6
    rw [p1.x.f17] at u2
    have u2' := gr_hi2 hb6
    have u1 : 1 ≤ u := by have : (1 : Int32).toInt = 1 := rfl; omega
    have v2 : v ≤ 60 := by have : (60 : Int32).toInt = 60 := rfl; omega
    have zz : z ≤ 20 := by have : (20 : Int32).toInt = 20 := rfl; omega
    have u20 : u ≤ 20 := by omega
    have u30 : h 6 + u ≤ 30 := by omega
    have hi6 := z1 rfl
    have pr := p6.grp (by omega) u1 u20 u30 v2 l1 zz
    rw [if_pos g6.fx.1, if_neg (by rw [hr6.fl]; decide), e_P_addGroup, p6.x.f12, p6.x.f17, q_add, if_neg (by rw [q_lit, q_leN (by decide) (by omega)]; omega), if_neg (by rw [q_lit, q_ltN (by decide) (by omega)]; omega), q_g (by omega) (by decide), q_w, q_uo (by decide), p6.x.f12, q_g (by omega) (by decide), q_w, q_uo (by decide), q_uo (by decide), p6.x.f12, q_g (by omega) (by decide), q_w, q_uo (by decide), q_uo (by decide), q_uo (by decide), p6.x.f12, q_g (by omega) (by decide), q_w, q_w, q_w, q_uo (by decide), q_uo (by decide), q_uo (by decide), q_uo (by decide), q_uj (by decide), q_uo (by decide), q_uo (by decide), q_uo (by decide), q_uo (by decide), p6.x.f12, p6.x.f17, q_add, nI_1, q_bV] at hX
    have e56 : (56 : Int32) + 4 * nI (h 5) = nI (56 + 4 * h 5) := by rw [q_lit, q_lit, q_mul, q_add]
    have e58 : nI (56 + 4 * h 5) + 2 = nI (56 + 4 * h 5 + 2) := by rw [q_lit, q_add]
    have e59 : nI (56 + 4 * h 5) + 3 = nI (56 + 4 * h 5 + 3) := by rw [q_lit, q_add]
    rw [if_pos g6.fx.2, q_gl (by decide) (by decide), p6.m 5 (by decide), e56, q_g (by omega) (by decide), q_w, nI_1, q_g (by omega) (by decide), q_w, e58, q_g (by omega) (by decide), q_w, e59, q_g (by omega) (by decide), q_w, q_gl (by decide) (by decide), q_gl (by decide) (by decide), q_w, q_gl (by decide) (by decide), q_gl (by decide) (by decide), q_w, q_uj (show 5 ≠ 56 + 4 * h 5 + 3 by omega), q_uj (show 5 ≠ 56 + 4 * h 5 + 2 by omega), q_uj (show 5 ≠ 56 + 4 * h 5 + 1 by omega), q_uj (show 5 ≠ 56 + 4 * h 5 by omega), p6.m 5 (by decide), nI_1, q_uj (show 6 ≠ 5 by omega), q_uj (show 6 ≠ 56 + 4 * h 5 + 3 by omega), q_uj (show 6 ≠ 56 + 4 * h 5 + 2 by omega), q_uj (show 6 ≠ 56 + 4 * h 5 + 1 by omega), q_uj (show 6 ≠ 56 + 4 * h 5 by omega), p6.m 6 (by decide), q_add, q_bV] at hM
    refine ⟨0, st6, _, _, hX, hM, ?_, ?_, ?_, ?_, fun _ => ⟨_, pr, ?_⟩⟩
    · refine (g6.X ?_).M ?_
      · intro k o j h1 h2
        rw [q_uo (by omega), q_uo (by omega), q_uo (by omega), q_uo (by omega), q_uo (by omega), q_uo (by omega)]
      · intro k o j h1
        rw [q_uo (by omega), q_uo (by omega), q_uo (by omega), q_uo (by omega), q_uo (by omega), q_uo (by omega)]
    · rw [q_uo (by decide), q_uo (by decide), q_uo (by decide), q_uo (by decide), q_uo (by decide), q_uo (by decide)]; exact hr6.fl
    · exact kq_up (kq_up (kq_up (kq_up (kq_up (kq_up hr6.kX (Or.inr (by omega))) (Or.inr (by omega))) (Or.inr (by omega))) (Or.inr (by omega))) (Or.inr (by omega))) (Or.inr (by omega))
    · exact kq_up (kq_up (kq_up (kq_up (kq_up (kq_up hr6.kM (Or.inr rfl)) (Or.inr rfl)) (Or.inr rfl)) (Or.inr rfl)) (Or.inr rfl)) (Or.inr rfl)
    · refine ⟨by rw [uf_o (by omega), uf_s, hq], ?_, ?_⟩
      · rw [uf_o (by omega), uf_o (by omega), uf_o (by omega), uf_o (by omega), uf_o (by omega), uf_o (by omega)]; exact hq2
      · rw [uf_o (by omega), uf_o (by omega), uf_o (by omega), uf_o (by omega), uf_o (by omega), uf_o (by omega)]; exact hq4
  · rw [if_neg (g6.f0 hf).1] at hX
    rw [if_neg (g6.f0 hf).2.1, q_bV] at hM
    exact ⟨f6, st6, a6, b6, hX, hM, hr.go g6 kX kM (fun q => absurd q hf)⟩
/-- M's house behind the groups -/
noncomputable def MLe (s1 : mx_S) : Option mx_Rt := if (s1 0 39 18) = 0 then (if (s1 0 39 15) = 1 then (if (s1 0 39 18) ≤ 0 then (mx_w (mx_up s1 0 39 7 1) fun s5 => mx_H 174 93 [some (mx_R 0 39), some (mx_I 0)] s5) else (mx_w (mx_up s1 0 39 12 (s1 0 39 18)) fun s6 => some (some (mx_I (((-1000100 : Int32)) - (s6 0 39 19))), s6))) else (mx_bV none (mx_sem 126 [mx_R 0 39, mx_I 1] s1) fun s7 => if (s7 0 39 18) ≤ 0 then (mx_w (mx_up s7 0 39 7 1) fun s8 => mx_H 174 93 [some (mx_R 0 39), some (mx_I 0)] s8) else (mx_w (mx_up s7 0 39 12 (s7 0 39 18)) fun s9 => some (some (mx_I (((-1000100 : Int32)) - (s9 0 39 19))), s9)))) else (if (s1 0 39 18) ≤ 0 then (mx_w (mx_up s1 0 39 7 1) fun s3 => mx_H 174 93 [some (mx_R 0 39), some (mx_I 0)] s3) else (mx_w (mx_up s1 0 39 12 (s1 0 39 18)) fun s4 => some (some (mx_I (((-1000100 : Int32)) - (s4 0 39 19))), s4)))
theorem gr_all {n : Nat} {tb : Nat → Nat} {a0 b0 : mx_S} (htb : ∀ j, tb j < 256) {f st : Nat} {a b : mx_S} (hr : RS n tb a0 b0 (QG 0) f st a b) : ∃ f' st' a' b' i', mx_sem 62 [mx_R 0 29] a = some (none, a') ∧ MLg0 b = MLe b' ∧ RS n tb a0 b0 (QG i') f' st' a' b' ∧ 1 ≤ i' := by
  rw [e_R_readGroups]
  refine rd_must (k := 5) (most := 6) htb (by decide) (by decide) (by rfl) QG (fun i h hb q => by have := hb.r5; have := q.1; omega) XLg MLg MLe ?_ ?_ ?_ (gr_body htb) ?_ hr
  · intro a
    rw [XLg, e_R_readGroups_3, if_pos (by decide)]
  · intro i a h1 h2 hw
    rw [XLg, e_R_readGroups_3, if_neg (by rw [q_lit, q_ltN (by decide) (by omega)]; omega), if_neg (by rw [q_lit, q_eqN (by omega) (by decide)]; omega), hw, q_bI, if_pos rfl]
  · intro f st a b h hc
    rw [MLg, e_M_house_57, s_name htb h, q_bJ, if_neg (by rw [nm_cmp (k := 5) (by decide) (by rfl)]; exact hc)]; rfl
  · intro f st a a1 b1 h1 hr hf h7
    rw [gr_end (by decide) (Or.inr rfl) h1 h7 rfl (x_numF hr hf _ _) (x_numF hr hf _ _) (x_lawF htb hr hf) (x_numF hr hf _ _) (x_signF hr hf), if_neg (hr.f0 hf).1]
