/-! ===== reading a house, both ===== -/
theorem q_gl {α : Type} {fl : α} {n N : Nat} {f : Nat → α} (h : n < N) (hN : N ≤ 2147483648) : mx_g fl (OfNat.ofNat n : Int32) N f = f (OfNat.ofNat n) := q_g h hN
def SYX (k o j : Nat) : Prop := (o = 29 ∧ j ≠ 1) ∨ (k = 1 ∧ 1 ≤ o ∧ o ≤ 12)
def SYM (_k o j : Nat) : Prop := (o = 39 ∧ 14 ≤ j ∧ j ≤ 19) ∨ o = 44
theorem SRX_Y : ∀ k o j, SRX k o j → SYX k o j := fun k o j h => Or.inl ⟨h.1, by have := h.2; omega⟩
theorem SRM_Y : ∀ k o j, SRM k o j → SYM k o j := fun k o j h => Or.inl ⟨h.1, by have := h.2; omega⟩
abbrev HQ : Type := (Nat → Nat) → Prop
def RS (n : Nat) (tb : Nat → Nat) (a0 b0 : mx_S) (Q : HQ) (f st : Nat) (a b : mx_S) : Prop :=
  (RD n tb f st a b) ∧ (a 0 29 7 = 1) ∧ (kq SYX a0 a) ∧ (kq SYM b0 b) ∧ (f = 0 → ∃ h, PI h a b ∧ Q h)
theorem RS.rd {n : Nat} {tb : Nat → Nat} {a0 b0 : mx_S} {Q : HQ} {f st : Nat} {a b : mx_S} (x_ : RS n tb a0 b0 Q f st a b) : RD n tb f st a b := x_.1
theorem RS.fl {n : Nat} {tb : Nat → Nat} {a0 b0 : mx_S} {Q : HQ} {f st : Nat} {a b : mx_S} (x_ : RS n tb a0 b0 Q f st a b) : a 0 29 7 = 1 := x_.2.1
theorem RS.kX {n : Nat} {tb : Nat → Nat} {a0 b0 : mx_S} {Q : HQ} {f st : Nat} {a b : mx_S} (x_ : RS n tb a0 b0 Q f st a b) : kq SYX a0 a := x_.2.2.1
theorem RS.kM {n : Nat} {tb : Nat → Nat} {a0 b0 : mx_S} {Q : HQ} {f st : Nat} {a b : mx_S} (x_ : RS n tb a0 b0 Q f st a b) : kq SYM b0 b := x_.2.2.2.1
theorem RS.pl {n : Nat} {tb : Nat → Nat} {a0 b0 : mx_S} {Q : HQ} {f st : Nat} {a b : mx_S} (x_ : RS n tb a0 b0 Q f st a b) : f = 0 → ∃ h, PI h a b ∧ Q h := x_.2.2.2.2
theorem RS.go {n : Nat} {tb : Nat → Nat} {a0 b0 : mx_S} {Q Q' : (Nat → Nat) → Prop} {f st f' st' : Nat} {a b a' b' : mx_S} (r : RS n tb a0 b0 Q f st a b) (h : RD n tb f' st' a' b') (hX : kq SRX a a') (hM : kq SRM b b') (hp : f' = 0 → ∃ h, PI h a' b' ∧ Q' h) : RS n tb a0 b0 Q' f' st' a' b' :=
  ⟨h, by rw [hX 0 29 7 (fun q => by have := q.2; omega)]; exact r.fl, kq_tr r.kX (kq_mono hX SRX_Y), kq_tr r.kM (kq_mono hM SRM_Y), hp⟩
theorem rd_loop {n : Nat} {tb : Nat → Nat} {a0 b0 : mx_S} {k most : Nat} (htb : ∀ j, tb j < 256) (hk : k < 9) (Q : Nat → (Nat → Nat) → Prop) (hQ : ∀ i h, HB h → Q i h → i ≤ most) (XL : Nat → mx_S → Option mx_Rt) (ML MN : mx_S → Option mx_Rt)
    (hXe : ∀ a, XL (most + 1) a = some (none, a))
    (hX0 : ∀ i a, 1 ≤ i → i ≤ most → mx_sem 52 [mx_R 0 29, mx_R k 55] a = some (some (mx_I 0), a) → XL i a = some (none, a))
    (hM : ∀ f st a b, RD n tb f st a b → ¬ (f = 0 ∧ wdB tb n st k = true) → ML b = MN b)
    (hB : ∀ i st a b, i ≤ most → RS n tb a0 b0 (Q i) 0 st a b → wdB tb n st k = true → ∃ f' st' a' b', XL i a = XL (i + 1) a' ∧ ML b = ML b' ∧ RS n tb a0 b0 (Q (i + 1)) f' st' a' b') :
    ∀ d i f st a b, i + d = most + 1 → (1 ≤ i ∨ (f = 0 ∧ wdB tb n st k = true)) → RS n tb a0 b0 (Q i) f st a b → ∃ f' st' a' b' i', XL i a = some (none, a') ∧ ML b = MN b' ∧ RS n tb a0 b0 (Q i') f' st' a' b' ∧ i ≤ i' := by
  intro d
  induction d with
  | zero =>
    intro i f st a b hd hi hr
    have ei : i = most + 1 := by omega
    subst ei
    have hf : f ≠ 0 := fun e => by
      obtain ⟨h, p, q⟩ := hr.pl e
      have := hQ _ h p.g q
      omega
    exact ⟨f, st, a, b, most + 1, hXe a, hM f st a b hr.rd (fun q => hf q.1), hr, Nat.le_refl _⟩
  | succ d ih =>
    intro i f st a b hd hi hr
    by_cases hc : f = 0 ∧ wdB tb n st k = true
    · obtain ⟨e, hw⟩ := hc
      subst e
      obtain ⟨f', st', a', b', h1, h2, h3⟩ := hB i st a b (by omega) hr hw
      obtain ⟨f2, st2, a2, b2, i2, h4, h5, h6, h7⟩ := ih (i + 1) f' st' a' b' (by omega) (Or.inl (by omega)) h3
      exact ⟨f2, st2, a2, b2, i2, h1.trans h4, h2.trans h5, h6, by omega⟩
    · have hi1 : 1 ≤ i := hi.resolve_right hc
      refine ⟨f, st, a, b, i, hX0 i a hi1 (by omega) ?_, hM f st a b hr.rd hc, hr, Nat.le_refl _⟩
      rw [s_isWord htb hk hr.rd, if_neg hc]
theorem rd_must {n : Nat} {tb : Nat → Nat} {a0 b0 : mx_S} {k most : Nat} (htb : ∀ j, tb j < 256) (hk : k < 9) (hmo : 1 ≤ most) {w : Int64} (hwn : w = lN (wN k)) (Q : Nat → (Nat → Nat) → Prop) (hQ : ∀ i h, HB h → Q i h → i ≤ most) (XL : Nat → mx_S → Option mx_Rt) (ML MN : mx_S → Option mx_Rt)
    (hXe : ∀ a, XL (most + 1) a = some (none, a))
    (hX0 : ∀ i a, 1 ≤ i → i ≤ most → mx_sem 52 [mx_R 0 29, mx_R k 55] a = some (some (mx_I 0), a) → XL i a = some (none, a))
    (hM : ∀ f st a b, RD n tb f st a b → ¬ (f = 0 ∧ wdB tb n st k = true) → ML b = MN b)
    (hB : ∀ i st a b, i ≤ most → RS n tb a0 b0 (Q i) 0 st a b → wdB tb n st k = true → ∃ f' st' a' b', XL i a = XL (i + 1) a' ∧ ML b = ML b' ∧ RS n tb a0 b0 (Q (i + 1)) f' st' a' b')
    (hF : ∀ f st a a1 b1, mx_sem 54 [mx_R 0 29, mx_R k 55, mx_I (nI 0), mx_I (nI most)] a = some (none, a1) → RD n tb f st a1 b1 → f ≠ 0 → a1 0 29 7 = 1 → XL 0 a = XL 1 a1)
    {f st : Nat} {a b : mx_S} (hr : RS n tb a0 b0 (Q 0) f st a b) : ∃ f' st' a' b' i', XL 0 a = some (none, a') ∧ (mx_bV none (mx_sem 167 [mx_R 0 39, mx_J w] b) ML) = MN b' ∧ RS n tb a0 b0 (Q i') f' st' a' b' ∧ 1 ≤ i' := by
  by_cases hf : f = 0
  · subst hf
    by_cases hw : wdB tb n st k = true
    · obtain ⟨f', st', a', b', h1, h2, h3⟩ := hB 0 st a b (by omega) hr hw
      obtain ⟨f2, st2, a2, b2, i2, h4, h5, h6, h7⟩ := rd_loop htb hk Q hQ XL ML MN hXe hX0 hM hB most 1 f' st' a' b' (by omega) (Or.inl (by omega)) h3
      refine ⟨f2, st2, a2, b2, i2, h1.trans h4, ?_, h6, h7⟩
      rw [m_yes htb hk hw hr.rd hwn, q_bV]
      exact h2.trans h5
    · obtain ⟨p1, p2⟩ := p_no htb hk hw hr.rd (nI 0) (nI most) hwn
      have hb := hr.rd.bad 1 (by decide)
      have hr' : RS n tb a0 b0 (Q 1) 1 st _ _ := hr.go hb bad_kX bad_kM (fun q => absurd q (by decide))
      refine ⟨1, st, _, _, 1, ?_, ?_, hr', Nat.le_refl _⟩
      · rw [hF 1 st a _ _ p1 hb (by decide) hr'.fl]
        exact hX0 1 _ (by omega) (by omega) (x_isF htb hb (by decide) hk)
      · rw [p2, q_bV]
        exact hM 1 st _ _ hb (fun q => absurd q.1 (by decide))
  · refine ⟨f, st, a, b, 1, ?_, ?_, hr.go hr.rd kq_rf kq_rf (fun q => absurd q hf), Nat.le_refl _⟩
    · rw [hF f st a a b (x_wordF hr.rd hf k _ _) hr.rd hf hr.fl]
      exact hX0 1 _ (by omega) (by omega) (x_isF htb hr.rd hf hk)
    · rw [m_beginF htb hk hr.rd hf hwn, q_bV]
      exact hM f st _ _ hr.rd (fun q => hf q.1)
/-! rooms -/
def QR (i : Nat) (h : Nat → Nat) : Prop := h 2 = i ∧ h 3 = 0 ∧ h 4 = 0 ∧ h 5 = 0
noncomputable def XLr (i : Nat) (a : mx_S) : Option mx_Rt := mx_H 58 3 [some (mx_R 0 29), some (mx_I (nI i)), none] a
noncomputable def MLr (b : mx_S) : Option mx_Rt := mx_H 174 24 [some (mx_R 0 39), none] b
noncomputable def MLd (b : mx_S) : Option mx_Rt := mx_H 174 33 [some (mx_R 0 39), none] b
theorem rm_end {i : Nat} {a : mx_S} (h6 : i < 7) {a1 a2 a3 : mx_S} {x : Int32} (hw : mx_sem 52 [mx_R 0 29, mx_R 1 55] a = some (some (mx_I 1), a) ∨ i = 0) (h1 : mx_sem 54 [mx_R 0 29, mx_R 1 55, mx_I (nI i), mx_I (nI 6)] a = some (none, a1)) (h2 : mx_sem 55 [mx_R 0 29, mx_I 1, mx_I 40] a1 = some (some (mx_I x), a2)) (h3 : mx_sem 56 [mx_R 0 29] a2 = some (none, a3)) : XLr i a = if a3 0 29 3 = 0 then (if a3 0 29 7 = 0 then none else (mx_bV none (mx_sem 46 [mx_R 1 1, mx_I x] a3) fun s5 => XLr (i + 1) s5)) else XLr (i + 1) a3 := by
  unfold XLr
  rw [show nI 6 = (6 : Int32) from rfl] at h1
  rw [e_R_readRooms_3, if_neg (by rw [q_lit, q_ltN (by decide) (by omega)]; omega)]
  by_cases hi : i = 0
  · subst hi
    rw [if_pos (by decide), h1, q_bV, h2, q_bI, h3, q_bV]
    rfl
  · have hw := hw.resolve_right hi
    rw [if_neg (by rw [q_lit, q_eqN (by omega) (by decide)]; exact hi), hw, q_bI, if_neg (by decide), h1, q_bV, h2, q_bI, h3, q_bV, nI_1]
theorem rm_body {n : Nat} {tb : Nat → Nat} {a0 b0 : mx_S} (htb : ∀ j, tb j < 256) (i st : Nat) (a b : mx_S) (hi : i ≤ 6) (hr : RS n tb a0 b0 (QR i) 0 st a b) (hw : wdB tb n st 1 = true) : ∃ f' st' a' b', XLr i a = XLr (i + 1) a' ∧ MLr b = MLr b' ∧ RS n tb a0 b0 (QR (i + 1)) f' st' a' b' := by
  obtain ⟨h, p, hq, hq3, hq4, hq5⟩ := hr.pl rfl
  obtain ⟨a1, b1, f1, x1, y1, ⟨st1, g1, k1, l1⟩, z1⟩ := p_begin htb (k := 1) (by decide) hw hr.rd (srt := 2) (by decide) (by rw [p.m 2 (by decide), hq]) hi (by decide)
  obtain ⟨x, y, a2, b2, f2, x2, y2, ⟨st2, g2, k2, l2⟩, z2, w2⟩ := p_num htb 1 40 g1
  obtain ⟨a3, b3, f3, x3, y3, ⟨st3, g3, k3, l3⟩, z3⟩ := p_sign htb g2
  have kX := kq_tr (kq_tr k1 k2) k3
  have kM := kq_tr (kq_tr l1 l2) l3
  have hX := rm_end (by omega) (Or.inl (x_is1 htb (by decide) hw hr.rd)) x1 x2 x3
  have hM0 := e_M_house_24 b
  rw [s_name htb hr.rd, q_bJ, if_pos ((nm_cmp (k := 1) (by decide) (by rfl)).mpr ⟨rfl, hw⟩), e_M_readRoom] at hM0
  rw [show nI 2 = (2 : Int32) from rfl, show nI 6 = (6 : Int32) from rfl] at y1
  rw [y1, q_bV, y2, q_bI, y3, q_bV] at hM0
  have hr3 := hr.go (Q' := fun _ => True) g3 kX kM (fun _ => ⟨h, p.k kX kM, trivial⟩)
  by_cases hf : f3 = 0
  · subst hf
    have e2 : f2 = 0 := Classical.byContradiction fun q => z3 q rfl
    subst e2
    have e1 : f1 = 0 := Classical.byContradiction fun q => z2 q rfl
    subst e1
    obtain ⟨v, rfl, rfl, v1, v2, v3⟩ := w2 rfl
    have v1 : 1 ≤ v := by have : (1 : Int32).toInt = 1 := rfl; omega
    have v2 : v ≤ 40 := by have : (40 : Int32).toInt = 40 := rfl; omega
    have hi6 := z1 rfl
    have p3 := p.k kX kM
    have pr := p3.room (by omega) hq3 hq4 v1 v2
    rw [if_pos g3.fx.1, if_neg (by rw [hr3.fl]; decide), e_P_addRoom, p3.x.f2, if_neg (by rw [q_lit, q_leN (by decide) (by omega)]; omega), q_g (by omega) (by decide), q_w, q_w, q_uo (by decide), p3.x.f2, nI_1, q_bV] at hX
    rw [if_pos g3.fx.2, q_gl (by decide) (by decide), p3.m 2 (by decide), q_lit, q_add, q_g (by have := p.g.r2; omega) (by decide), q_w, q_gl (by decide) (by decide), q_gl (by decide) (by decide), q_w, q_uj (by omega), p3.m 2 (by decide), nI_1, q_bV] at hM0
    refine ⟨0, st3, _, _, hX, hM0, ?_, ?_, ?_, ?_, fun _ => ⟨_, pr, ?_⟩⟩
    · refine (g3.X ?_).M ?_
      · intro k o j h1 h2
        rw [q_uo (by omega), q_uo (by omega)]
      · intro k o j h1
        rw [q_uo (by omega), q_uo (by omega)]
    · rw [q_uo (by decide), q_uo (by decide)]; exact hr3.fl
    · exact kq_up (kq_up hr3.kX (Or.inr (by omega))) (Or.inr (by omega))
    · exact kq_up (kq_up hr3.kM (Or.inr rfl)) (Or.inr rfl)
    · refine ⟨by rw [uf_s, hq], ?_, ?_, ?_⟩
      · rw [uf_o (by omega), uf_o (by omega)]; exact hq3
      · rw [uf_o (by omega), uf_o (by omega)]; exact hq4
      · rw [uf_o (by omega), uf_o (by omega)]; exact hq5
  · rw [if_neg (g3.f0 hf).1] at hX
    rw [if_neg (g3.f0 hf).2.1, q_bV] at hM0
    exact ⟨f3, st3, a3, b3, hX, hM0, hr.go g3 kX kM (fun q => absurd q hf)⟩
theorem rm_all {n : Nat} {tb : Nat → Nat} {a0 b0 : mx_S} (htb : ∀ j, tb j < 256) {f st : Nat} {a b : mx_S} (hr : RS n tb a0 b0 (QR 0) f st a b) : ∃ f' st' a' b' i', mx_sem 58 [mx_R 0 29] a = some (none, a') ∧ (mx_bV none (mx_sem 167 [mx_R 0 39, mx_J 1919905645] b) MLr) = MLd b' ∧ RS n tb a0 b0 (QR i') f' st' a' b' ∧ 1 ≤ i' := by
  rw [e_R_readRooms]
  refine rd_must (k := 1) (most := 6) htb (by decide) (by decide) (by rfl) QR (fun i h hb q => by have := hb.r2; have := q.1; omega) XLr MLr MLd ?_ ?_ ?_ (rm_body htb) ?_ hr
  · intro a
    rw [XLr, e_R_readRooms_3, if_pos (by decide)]
  · intro i a h1 h2 hw
    rw [XLr, e_R_readRooms_3, if_neg (by rw [q_lit, q_ltN (by decide) (by omega)]; omega), if_neg (by rw [q_lit, q_eqN (by omega) (by decide)]; omega), hw, q_bI, if_pos rfl]
  · intro f st a b h hc
    rw [MLr, e_M_house_24, s_name htb h, q_bJ, if_neg (by rw [nm_cmp (k := 1) (by decide) (by rfl)]; exact hc)]; rfl
  · intro f st a a1 b1 h1 hr hf h7
    rw [rm_end (by decide) (Or.inr rfl) h1 (x_numF hr hf _ _) (x_signF hr hf), if_neg (hr.f0 hf).1]
