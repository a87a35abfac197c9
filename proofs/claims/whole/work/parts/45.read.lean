/-! ===== the rail; house as far as both read ===== -/
noncomputable def RTm (s : mx_S) : Option mx_Rt := mx_bI none (mx_sem 164 [mx_R 0 39, mx_I 1, mx_I 20] s) fun r5 s4 => mx_g none 0 80 fun j6 => mx_w (mx_up s4 0 44 j6 r5) fun s7 => mx_bI none (mx_sem 164 [mx_R 0 39, mx_I 0, mx_I 20] s7) fun r9 s8 => mx_g none 1 80 fun j10 => mx_w (mx_up s8 0 44 j10 r9) fun s11 => mx_bV none (mx_sem 165 [mx_R 0 39] s11) fun s12 => some (none, s12)
def h2f (u v : Nat) : Nat → Nat := fun j => if j = 0 then u else if j = 1 then v else 0
theorem p_rail {n : Nat} {tb : Nat → Nat} (htb : ∀ j, tb j < 256) {st : Nat} {a b : mx_S} (h : RD n tb 0 st a b) (h7 : a 0 29 7 = 1) (ha : ∀ j, j = 2 ∨ j = 4 ∨ j = 8 ∨ j = 12 ∨ j = 17 → a 1 1 j = 0) (hb : ∀ j, j < 80 → b 0 44 j = 0) : ∃ f' st' a' b', mx_sem 57 [mx_R 0 29] a = some (none, a') ∧ mx_sem 166 [mx_R 0 39] b = some (none, b') ∧ RS n tb a b (QR 0) f' st' a' b' := by
  have hA : ∃ a1 b1 f1, mx_sem 54 [mx_R 0 29, mx_R 0 55, mx_I 0, mx_I 1] a = some (none, a1) ∧ mx_sem 166 [mx_R 0 39] b = RTm b1 ∧ Gn n tb a b a1 b1 f1 := by
    by_cases hw : wdB tb n st 0 = true
    · obtain ⟨a1, b1, x1, x2, x3⟩ := h.nx htb
      refine ⟨a1, b1, 0, ?_, ?_, x3⟩
      · rw [e_R_takeWord, if_pos h.fx.1, x_is1 htb (by decide) hw h, q_bI, if_neg (by decide), if_pos (by decide), x1, q_bV]
      · rw [e_M_readRail, s_name htb h, q_bJ, if_pos ((nm_cmp (k := 0) (by decide) (by rfl)).mpr ⟨rfl, hw⟩), s_must1 h x2, q_bV]; rfl
    · refine ⟨_, _, 1, ?_, ?_, ⟨st, h.bad 1 (by decide), bad_kX, bad_kM⟩⟩
      · rw [e_R_takeWord, if_pos h.fx.1, x_is0 htb (by decide) hw h, q_bI, if_pos rfl, q_w]; rfl
      · rw [e_M_readRail, s_name htb h, q_bJ, if_neg (by rw [nm_cmp (k := 0) (by decide) (by rfl)]; exact fun q => hw q.2), s_must0 h, q_bV]; rfl
  obtain ⟨a1, b1, f1, x1, y1, ⟨st1, g1, k1, l1⟩⟩ := hA
  obtain ⟨x, y, a2, b2, f2, x2, y2, ⟨st2, g2, k2, l2⟩, z2, w2⟩ := p_num htb 1 20 g1
  have g2' : RD n tb f2 st2 (mx_up a2 1 1 0 x) (mx_up b2 0 44 0 y) := (g2.X (fun k o j h1 h2 => by rw [q_uo (by omega)])).M (fun k o j h1 => by rw [q_uo (by omega)])
  obtain ⟨u, v, a3, b3, f3, x3, y3, ⟨st3, g3, k3, l3⟩, z3, w3⟩ := p_num htb 0 20 g2'
  have g3' : RD n tb f3 st3 (mx_up a3 1 1 1 u) (mx_up b3 0 44 1 v) := (g3.X (fun k o j h1 h2 => by rw [q_uo (by omega)])).M (fun k o j h1 => by rw [q_uo (by omega)])
  obtain ⟨a4, b4, f4, x4, y4, ⟨st4, g4, k4, l4⟩, z4⟩ := p_sign htb g3'
  have f7 : ∀ {s s' : mx_S}, kq SRX s s' → s' 0 29 7 = s 0 29 7 := fun hk => hk 0 29 7 (fun q => by have := q.2; omega)
  have e1 : a1 0 29 7 = 1 := by rw [f7 k1]; exact h7
  have e2 : mx_up a2 1 1 0 x 0 29 7 = 1 := by rw [q_uo (by decide), f7 k2]; exact e1
  have e3 : mx_up a3 1 1 1 u 0 29 7 = 1 := by rw [q_uo (by decide), f7 k3]; exact e2
  have kX1 : kq SYX a (mx_up a2 1 1 0 x) := kq_up (kq_mono (kq_tr k1 k2) SRX_Y) (Or.inr (by omega))
  have kX2 : kq SYX a (mx_up a3 1 1 1 u) := kq_up (kq_tr kX1 (kq_mono k3 SRX_Y)) (Or.inr (by omega))
  have kM1 : kq SYM b (mx_up b2 0 44 0 y) := kq_up (kq_mono (kq_tr l1 l2) SRM_Y) (Or.inr rfl)
  have kM2 : kq SYM b (mx_up b3 0 44 1 v) := kq_up (kq_tr kM1 (kq_mono l3 SRM_Y)) (Or.inr rfl)
  refine ⟨f4, st4, a4, b4, ?_, ?_, g4, by rw [f7 k4]; exact e3, kq_tr kX2 (kq_mono k4 SRX_Y), kq_tr kM2 (kq_mono l4 SRM_Y), ?_⟩
  · rw [e_R_readRail, x1, q_bV, if_neg (by rw [e1]; decide), x2, q_bI, q_w, if_neg (by rw [e2]; decide), x3, q_bI, q_w, x4, q_bV]
  · rw [y1]
    unfold RTm
    rw [y2, q_bI, q_gl (by decide) (by decide), q_w, y3, q_bI, q_gl (by decide) (by decide), q_w, y4, q_bV]
  · intro hf
    subst hf
    have q3 : f3 = 0 := Classical.byContradiction fun q => z4 q rfl
    subst q3
    have q2 : f2 = 0 := Classical.byContradiction fun q => z3 q rfl
    subst q2
    obtain ⟨r, rfl, rfl, r1, r2, r3, -, -⟩ := w2 rfl
    obtain ⟨t, rfl, rfl, t1, t2, t3, -, -⟩ := w3 rfl
    have r2 : r ≤ 20 := by have : (20 : Int32).toInt = 20 := rfl; omega
    have t2 : t ≤ 20 := by have : (20 : Int32).toInt = 20 := rfl; omega
    have hX : ∀ o j, 1 ≤ o → o ≤ 12 → a4 1 o j = mx_up (mx_up a 1 1 0 (nI r)) 1 1 1 (nI t) 1 o j := by
      intro o j o1 o2
      have n29 : ∀ k j, ¬ SRX k o j := fun k j q => by have := q.1; omega
      rw [k4 1 o j (n29 _ _), q_up, q_up]
      split
      · rfl
      · rw [k3 1 o j (n29 _ _), q_up, q_up]
        split
        · rfl
        · rw [k2 1 o j (n29 _ _), k1 1 o j (n29 _ _)]
    have hM : ∀ j, b4 0 44 j = mx_up (mx_up b 0 44 0 (nI r)) 0 44 1 (nI t) 0 44 j := by
      intro j
      have n39 : ∀ k j, ¬ SRM k 44 j := fun k j q => by have := q.1; omega
      rw [l4 0 44 j (n39 _ _), q_up, q_up]
      split
      · rfl
      · rw [l3 0 44 j (n39 _ _), q_up, q_up]
        split
        · rfl
        · rw [l2 0 44 j (n39 _ _), l1 0 44 j (n39 _ _)]
    have e0 : ∀ j, 2 ≤ j → h2f r t j = 0 := fun j hj => by unfold h2f; rw [if_neg (by omega), if_neg (by omega)]
    refine ⟨h2f r t, ⟨?_, ?_, ?_⟩, e0 2 (by omega), e0 3 (by omega), e0 4 (by omega), e0 5 (by omega)⟩
    · have ez : ∀ j, j = 2 ∨ j = 4 ∨ j = 8 ∨ j = 12 ∨ j = 17 → a4 1 1 j = nI 0 := fun j hj => by
        rw [hX 1 j (by omega) (by omega), q_uj (by omega), q_uj (by omega), ha j hj]; rfl
      refine ⟨?_, ?_, ?_, ?_, ?_, ?_, ?_, fun i hi => ?_, fun i hi => ?_, fun i hi => ?_, fun i hi => ?_⟩
      · rw [hX 1 0 (by omega) (by omega), q_uj (by decide), q_us]; rfl
      · rw [hX 1 1 (by omega) (by omega), q_us]; rfl
      · rw [e0 2 (by omega)]; exact ez 2 (by omega)
      · rw [e0 3 (by omega)]; exact ez 4 (by omega)
      · rw [e0 4 (by omega)]; exact ez 8 (by omega)
      · rw [e0 5 (by omega)]; exact ez 12 (by omega)
      · rw [e0 6 (by omega)]; exact ez 17 (by omega)
      · rw [e0 2 (by omega)] at hi; omega
      · rw [e0 3 (by omega)] at hi; omega
      · rw [e0 4 (by omega)] at hi; omega
      · rw [e0 5 (by omega)] at hi; omega
    · intro j hj
      rw [hM j]
      by_cases j1 : j = 1
      · subst j1; rw [q_us]; rfl
      · rw [q_uj j1]
        by_cases j0 : j = 0
        · subst j0; rw [q_us]; rfl
        · rw [q_uj j0, hb j hj, e0 j (by omega)]; rfl
    · refine ⟨r2, t2, ?_, ?_, ?_, ?_, ?_, fun i hi => ?_, fun i hi => ?_, fun i hi => ?_, fun i hi => ?_, ?_⟩
      · rw [e0 2 (by omega)]; omega
      · rw [e0 3 (by omega)]; omega
      · rw [e0 4 (by omega)]; omega
      · rw [e0 5 (by omega)]; omega
      · rw [e0 6 (by omega)]; omega
      · rw [e0 2 (by omega)] at hi; omega
      · rw [e0 3 (by omega)] at hi; omega
      · rw [e0 4 (by omega)] at hi; omega
      · rw [e0 5 (by omega)] at hi; omega
      · rw [e0 6 (by omega), e0 5 (by omega)]; rfl
/-- M's fresh house: zeros -/
theorem m_zero : ∀ (d i : Nat) (b : mx_S), i + d = 80 → mx_H 174 8 [some (mx_R 0 39), some (mx_I (nI i))] b = mx_H 174 8 [some (mx_R 0 39), some (mx_I (nI 80))] (mx_fl b 0 44 i 80 0) := by
  intro d
  induction d with
  | zero =>
    intro i b h
    have : i = 80 := by omega
    subst this
    congr 1
    funext k' o' j'
    rw [q_fl, if_neg (by omega)]
  | succ d ih =>
    intro i b h
    rw [e_M_house_8, if_neg (by rw [q_lit, q_leN (by decide) (by omega)]; omega), q_g (by omega) (by decide), q_w, nI_1, ih (i + 1) _ (by omega)]
    congr 1
    funext k' o' j'
    rw [q_fl, q_fl, q_up]
    split <;> split <;> (try split) <;> first | rfl | (exfalso; omega)
def SZX (k o j : Nat) : Prop := (o = 29 ∧ j ≠ 1) ∨ (k = 1 ∧ 1 ≤ o ∧ o ≤ 12)
def SZM (_k o j : Nat) : Prop := (o = 39 ∧ (j = 0 ∨ j = 11 ∨ 13 ≤ j ∧ j ≤ 19)) ∨ o = 44
theorem it_tb {n : Nat} {a b : mx_S} (h : ITn n a b) : ∃ tb : Nat → Nat, (∀ j, tb j < 256) ∧ TX n tb a ∧ (∀ j, j < n → b 0 46 j = nI (tb j)) := by
  have : ∀ j, ∃ t, t < 256 ∧ (j < n → a 0 30 j = (nI t).toInt8.toInt32 ∧ b 0 46 j = nI t) := fun j => by
    by_cases hj : j < n
    · obtain ⟨t, h1, h2, h3⟩ := h.2.2.2 j hj
      exact ⟨t, h1, fun _ => ⟨h2, h3⟩⟩
    · exact ⟨0, by decide, fun q => absurd q hj⟩
  refine ⟨fun j => Classical.choose (this j), fun j => (Classical.choose_spec (this j)).1, ⟨h.1, h.2.1, fun j hj => ((Classical.choose_spec (this j)).2 hj).1⟩, fun j hj => ((Classical.choose_spec (this j)).2 hj).2⟩
/-- both have read: a fault at st, or a plan -/
theorem read_all {a b : mx_S} (hT : IT a b) : ∃ f st a' b', f ≤ 3 ∧ mx_sem 63 [mx_R 0 29, mx_R 1 1] a = some (none, a') ∧ mx_sem 174 [mx_R 0 39] b = (if f = 0 then mx_H 174 93 [some (mx_R 0 39), some (mx_I 0)] (mx_up b' 0 39 7 1) else some (some (mx_I (((-1000100 : Int32)) - nI st)), mx_up b' 0 39 12 (nI f))) ∧ a' 0 29 3 = nI f ∧ a' 0 29 2 = nI st ∧ b' 0 39 11 = 0 ∧ kq SZX a a' ∧ kq SZM b b' ∧ (f = 0 → ∃ h, PI h a' b' ∧ 1 ≤ h 2 ∧ 1 ≤ h 4 ∧ 1 ≤ h 5) := by
  obtain ⟨n, hT⟩ := hT
  obtain ⟨tb, htb, hX, hM⟩ := it_tb hT
  have hn := hT.1
  -- X, up to the first token
  let s1 := mx_up a 0 29 7 1
  let c1 := mx_up (mx_up (mx_up (mx_up (mx_up s1 1 1 2 0) 1 1 4 0) 1 1 8 0) 1 1 12 0) 1 1 17 0
  let c2 := mx_up (mx_up c1 0 29 4 0) 0 29 3 0
  have hc29 : ∀ j, c1 0 29 j = s1 0 29 j := fun j => by
    show mx_up (mx_up (mx_up (mx_up (mx_up s1 1 1 2 0) 1 1 4 0) 1 1 8 0) 1 1 12 0) 1 1 17 0 0 29 j = _
    rw [q_uo (by decide), q_uo (by decide), q_uo (by decide), q_uo (by decide), q_uo (by decide)]
  have hc30 : ∀ j, c2 0 30 j = a 0 30 j := fun j => by
    show mx_up (mx_up (mx_up (mx_up (mx_up (mx_up (mx_up (mx_up a 0 29 7 1) 1 1 2 0) 1 1 4 0) 1 1 8 0) 1 1 12 0) 1 1 17 0) 0 29 4 0) 0 29 3 0 0 30 j = _
    rw [q_uo (by decide), q_uo (by decide), q_uo (by decide), q_uo (by decide), q_uo (by decide), q_uo (by decide), q_uo (by decide), q_uo (by decide)]
  have hTc : TX n tb c2 := ⟨hn, by
    show mx_up (mx_up c1 0 29 4 0) 0 29 3 0 0 29 1 = _
    rw [q_uj (by decide), q_uj (by decide), hc29]
    show mx_up a 0 29 7 1 0 29 1 = _
    rw [q_uj (by decide)]; exact hT.2.1, fun j hj => by rw [hc30]; exact hX.2.2 j hj⟩
  obtain ⟨a1, x1, x2, x3, x4, x5, x6⟩ := s_adv htb 0 c2 (by omega) hTc (by
    show mx_up (mx_up c1 0 29 4 0) 0 29 3 0 0 29 4 = _
    rw [q_uj (by decide), q_us]; rfl)
  -- M, up to the first token
  let d0 := mx_up b 0 39 0 0
  let d1 := mx_up d0 0 39 13 (nI n)
  let d4 := mx_up (mx_up (mx_up d1 0 39 11 0) 0 39 14 0) 0 39 18 0
  have hTd : TM n tb d4 := ⟨hn, by
    show mx_up (mx_up (mx_up d1 0 39 11 0) 0 39 14 0) 0 39 18 0 0 39 13 = _
    rw [q_uj (by decide), q_uj (by decide), q_uj (by decide)]
    show mx_up d0 0 39 13 (nI n) 0 39 13 = _
    rw [q_us], fun j hj => by
    show mx_up (mx_up (mx_up (mx_up (mx_up b 0 39 0 0) 0 39 13 (nI n)) 0 39 11 0) 0 39 14 0) 0 39 18 0 0 46 j = _
    rw [q_uo (by decide), q_uo (by decide), q_uo (by decide), q_uo (by decide), q_uo (by decide)]
    exact hM j hj⟩
  obtain ⟨b1, y1, y2, y3, y4, y5, y6⟩ := s_next htb 0 d4 (by omega) hTd (by
    show mx_up (mx_up (mx_up d1 0 39 11 0) 0 39 14 0) 0 39 18 0 0 39 14 = _
    rw [q_uj (by decide), q_us]; rfl)
  let b2 := mx_fl b1 0 44 0 80 0
  have kX : ∀ j, ¬ (j = 2 ∨ j = 4 ∨ j = 5 ∨ j = 6) → a1 0 29 j = c2 0 29 j := fun j hj => x6 0 29 j (fun q => hj q.2)
  have kM : ∀ j, ¬ (j = 14 ∨ j = 15 ∨ j = 16 ∨ j = 17) → b2 0 39 j = d4 0 39 j := fun j hj => by
    show mx_fl b1 0 44 0 80 0 0 39 j = _
    rw [q_flo (by decide)]
    exact y6 0 39 j (fun q => hj q.2)
  have hRD : RD n tb 0 (tkS tb n 0) a1 b2 := by
    refine ⟨⟨hn, by rw [kX 1 (by omega)]; exact hTc.2.1, fun j hj => by rw [x6 0 30 j (fun q => absurd q.1 (by decide))]; exact hTc.2.2 j hj⟩, ⟨hn, by rw [kM 13 (by omega)]; exact hTd.2.1, fun j hj => ?_⟩, tkS_le (by omega), x2, ?_, x3, ?_, ?_, x4, ?_, x5, ?_, ?_, by omega, fun q => absurd rfl q⟩
    · show mx_fl b1 0 44 0 80 0 0 46 j = _
      rw [q_flo (by decide), y6 0 46 j (fun q => absurd q.1 (by decide))]; exact hTd.2.2 j hj
    · show mx_fl b1 0 44 0 80 0 0 39 16 = _
      rw [q_flo (by decide)]; exact y2
    · show mx_fl b1 0 44 0 80 0 0 39 14 = _
      rw [q_flo (by decide)]; exact y3
    · show mx_fl b1 0 44 0 80 0 0 39 17 = _
      rw [q_flo (by decide)]; exact y4
    · show mx_fl b1 0 44 0 80 0 0 39 15 = _
      rw [q_flo (by decide)]; exact y5
    · rw [kX 3 (by omega)]
      show mx_up (mx_up c1 0 29 4 0) 0 29 3 0 0 29 3 = _
      rw [q_us]; rfl
    · rw [kM 18 (by omega)]
      show mx_up (mx_up (mx_up d1 0 39 11 0) 0 39 14 0) 0 39 18 0 0 39 18 = _
      rw [q_us]; rfl
  have f7 : a1 0 29 7 = 1 := by
    rw [kX 7 (by omega)]
    show mx_up (mx_up c1 0 29 4 0) 0 29 3 0 0 29 7 = _
    rw [q_uj (by decide), q_uj (by decide), hc29]
    show mx_up a 0 29 7 1 0 29 7 = _
    rw [q_us]
  have hz : ∀ j, j = 2 ∨ j = 4 ∨ j = 8 ∨ j = 12 ∨ j = 17 → a1 1 1 j = 0 := by
    intro j hj
    rw [x6 1 1 j (fun q => absurd q.1 (by decide))]
    show mx_up (mx_up (mx_up (mx_up (mx_up (mx_up (mx_up (mx_up a 0 29 7 1) 1 1 2 0) 1 1 4 0) 1 1 8 0) 1 1 12 0) 1 1 17 0) 0 29 4 0) 0 29 3 0 1 1 j = _
    rcases hj with rfl | rfl | rfl | rfl | rfl <;> simp [q_up]
  obtain ⟨f3, st3, a3, b3, r1, r2, r3⟩ := p_rail htb hRD f7 hz (fun j hj => by
    show mx_fl b1 0 44 0 80 0 0 44 j = _
    rw [q_fl, if_pos (by omega)])
  obtain ⟨f4, st4, a4, b4, i4, r4, r5, r6, i41⟩ := rm_all htb r3
  obtain ⟨f5, st5, a5, b5, i5, r7, r8, r9⟩ := dr_all htb (⟨r6.rd, r6.fl, r6.kX, r6.kM, fun q => by
    obtain ⟨h, p, q1, q2, q3, q4⟩ := r6.pl q
    exact ⟨h, p, q2, by omega, q3, q4⟩⟩ : RS n tb a1 b2 (QD 0) f4 st4 a4 b4)
  obtain ⟨f6, st6, a6, b6, i6, r10, r11, r12, i61⟩ := pc_all htb (⟨r9.rd, r9.fl, r9.kX, r9.kM, fun q => by
    obtain ⟨h, p, q1, q2, q3, q4⟩ := r9.pl q
    exact ⟨h, p, q3, q2, q4⟩⟩ : RS n tb a1 b2 (QP 0) f5 st5 a5 b5)
  obtain ⟨f7', st7, a7, b7, i7, r13, r14, r15, i71⟩ := gr_all htb (⟨r12.rd, r12.fl, r12.kX, r12.kM, fun q => by
    obtain ⟨h, p, q1, q2, q3⟩ := r12.pl q
    exact ⟨h, p, q3, q2, by omega⟩⟩ : RS n tb a1 b2 (QG 0) f6 st6 a6 b6)
  have hXall : mx_sem 63 [mx_R 0 29, mx_R 1 1] a = (if (a7 0 29 3) = 0 then (if (a7 0 29 5) = 0 then (some (none, a7)) else (mx_w (mx_up a7 0 29 3 1) fun s11 => some (none, s11))) else (some (none, a7))) := by
    rw [e_R_read, q_w, if_neg (by rw [q_us]; decide), e_P_clear, q_w, q_w, q_w, q_w, q_w, q_bV, q_w, q_w, x1, q_bV, r1, q_bV, r4, q_bV, r7, q_bV, r10, q_bV, r13, q_bV]
  have hMall : mx_sem 174 [mx_R 0 39] b = MLe b7 := by
    rw [e_M_house, q_w, e_M_begin, show mx_up b 0 39 0 0 0 39 11 = nI n by rw [q_uj (by decide)]; exact hT.2.2.1, q_w, q_w, q_w, q_w, y1, q_bV, q_bV, show mx_I 0 = mx_I (nI 0) from rfl, m_zero 80 0 b1 (by omega), e_M_house_8, if_pos (by decide), r2, q_bV]
    refine Eq.trans r5 (Eq.trans r8 (Eq.trans r11 r14))
  have kA : kq SZX a a1 := by
    have : kq SZX a c2 := kq_up (kq_up (kq_up (kq_up (kq_up (kq_up (kq_up (kq_up kq_rf (Or.inl (by omega))) (Or.inr (by omega))) (Or.inr (by omega))) (Or.inr (by omega))) (Or.inr (by omega))) (Or.inr (by omega))) (Or.inl (by omega))) (Or.inl (by omega))
    exact kq_tr this (kq_g x6 (fun k o j q => Or.inl ⟨q.1, by have := q.2; omega⟩))
  have kB : kq SZM b b2 := by
    have : kq SZM b d4 := kq_up (kq_up (kq_up (kq_up (kq_up kq_rf (Or.inl (by omega))) (Or.inl (by omega))) (Or.inl (by omega))) (Or.inl (by omega))) (Or.inl (by omega))
    exact kq_fl (kq_tr this (kq_g y6 (fun k o j q => Or.inl ⟨q.1, by have := q.2; omega⟩))) (fun j => Or.inr rfl)
  have kA7 : kq SZX a a7 := kq_tr kA r15.kX
  have kB7 : kq SZM b b7 := kq_tr kB (kq_mono r15.kM (fun k o j q => by rcases q with q | q; exact Or.inl (by omega); exact Or.inr q))
  have h11 : b7 0 39 11 = 0 := by
    rw [r15.kM 0 39 11 (fun q => by rcases q with q | q <;> omega), kM 11 (by omega)]
    show mx_up (mx_up (mx_up d1 0 39 11 0) 0 39 14 0) 0 39 18 0 0 39 11 = _
    rw [q_uj (by decide), q_uj (by decide), q_us]
  have g := r15.rd
  have h6 := g.2.2.2.2.2.2.2.2.1
  have h7 := g.2.2.2.2.2.2.2.2.2.1
  have hK := tkK_le (tb := tb) (n := n) (st := st7)
  unfold MLe at hMall
  by_cases hf : f7' = 0
  · subst hf
    rw [if_pos g.fx.1, h6] at hXall
    rw [if_pos g.fx.2, h7] at hMall
    by_cases hk : tkK tb n st7 = 0
    · rw [hk, if_pos (by decide)] at hXall
      rw [hk, if_pos (by decide), if_pos (by rw [g.fx.2]; decide), q_w] at hMall
      refine ⟨0, st7, a7, b7, by omega, hXall, by rw [if_pos rfl]; exact hMall, g.fx.1, g.2.2.2.1, h11, kA7, kB7, fun _ => ?_⟩
      obtain ⟨h, p, q1, q2, q3⟩ := r15.pl rfl
      exact ⟨h, p, q2, q3, by omega⟩
    · rw [if_neg (by rw [q_lit, q_eqN (by omega) (by decide)]; exact hk), q_w] at hXall
      have hbd := g.bad 1 (by decide)
      have e18 : mx_up (mx_up b7 0 39 18 1) 0 39 19 (nI st7) 0 39 18 = 1 := by rw [q_uj (by decide), q_us]
      rw [if_neg (by rw [q_lit, q_eqN (by unfold tkm; split <;> omega) (by decide)]; unfold tkm; split <;> omega), s_bad0 g, q_bV, e18, if_neg (by decide), q_w, q_uj (show 19 ≠ 12 by decide), q_us] at hMall
      refine ⟨1, st7, _, mx_up (mx_up b7 0 39 18 1) 0 39 19 (nI st7), by omega, hXall, by rw [if_neg (by decide)]; exact hMall, by rw [q_us]; rfl, by rw [q_uj (by decide)]; exact g.2.2.2.1, by rw [q_uj (by decide), q_uj (by decide)]; exact h11, kq_up kA7 (Or.inl (by omega)), kq_up (kq_up kB7 (Or.inl (by omega))) (Or.inl (by omega)), fun q => absurd q (by decide)⟩
  · rw [if_neg (g.f0 hf).1] at hXall
    have h18 := g.2.2.2.2.2.2.2.2.2.2.2.2.1
    have h19 := g.2.2.2.2.2.2.2.2.2.2.2.2.2.2 hf
    rw [if_neg (g.f0 hf).2.1, if_neg (g.f0 hf).2.2, q_w, q_uj (show 19 ≠ 12 by decide), h19, h18] at hMall
    exact ⟨f7', st7, a7, b7, g.2.2.2.2.2.2.2.2.2.2.2.2.2.1, hXall, by rw [if_neg hf]; exact hMall, g.2.2.2.2.2.2.2.2.2.2.2.1, g.2.2.2.1, h11, kA7, kB7, fun q => absurd q hf⟩
