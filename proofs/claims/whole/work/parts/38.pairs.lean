/-! ===== both readers, step by step ===== -/
def kq (S : Nat → Nat → Nat → Prop) (a a' : mx_S) : Prop := ∀ k o j, ¬ S k o j → a' k o j = a k o j
theorem kq_rf {S : Nat → Nat → Nat → Prop} {a : mx_S} : kq S a a := fun _ _ _ _ => rfl
theorem kq_tr {S : Nat → Nat → Nat → Prop} {a a' a'' : mx_S} (h : kq S a a') (h2 : kq S a' a'') : kq S a a'' := fun k o j q => (h2 k o j q).trans (h k o j q)
theorem kq_up {S : Nat → Nat → Nat → Prop} {a a' : mx_S} {k o j : Nat} {x : Int32} (h : kq S a a') (hb : S k o j) : kq S a (mx_up a' k o j x) := by
  intro k' o' j' q
  rw [q_up, if_neg]
  · exact h k' o' j' q
  · rintro ⟨rfl, rfl, rfl⟩
    exact q hb
theorem kq_fl {S : Nat → Nat → Nat → Prop} {a a' : mx_S} {k o i n : Nat} {x : Int32} (h : kq S a a') (hb : ∀ j, S k o j) : kq S a (mx_fl a' k o i n x) := by
  intro k' o' j' q
  rw [q_fl, if_neg]
  · exact h k' o' j' q
  · rintro ⟨rfl, rfl, -⟩
    exact q (hb j')
theorem kq_cp {S : Nat → Nat → Nat → Prop} {a a' : mx_S} {k o k1 o1 sp dp n : Nat} (h : kq S a a') (hb : ∀ j, S k1 o1 j) : kq S a (mx_cp a' k o k1 o1 sp dp n) := by
  intro k' o' j' q
  rw [q_cpy, if_neg]
  · exact h k' o' j' q
  · rintro ⟨rfl, rfl, -⟩
    exact q (hb j')
theorem kq_g {T : Nat → Nat → Prop} {S : Nat → Nat → Nat → Prop} {a a' : mx_S} (h : kpg T a a') (hT : ∀ k o j, T o j → S k o j) : kq S a a' := fun k o j q => h k o j (fun z => q (hT k o j z))
theorem kq_mono {T S : Nat → Nat → Nat → Prop} {a a' : mx_S} (h : kq T a a') (hT : ∀ k o j, T k o j → S k o j) : kq S a a' := fun k o j q => h k o j (fun z => q (hT k o j z))
/-- the readers' own cells -/
def SRX (_k o j : Nat) : Prop := o = 29 ∧ (j = 2 ∨ j = 3 ∨ j = 4 ∨ j = 5 ∨ j = 6)
def SRM (_k o j : Nat) : Prop := o = 39 ∧ (j = 14 ∨ j = 15 ∨ j = 16 ∨ j = 17 ∨ j = 18 ∨ j = 19)
theorem RD.X {n : Nat} {tb : Nat → Nat} {f st : Nat} {a b a' : mx_S} (h : RD n tb f st a b) (hk : ∀ k o j, o = 29 ∨ o = 30 → j < 7 ∨ o = 30 → a' k o j = a k o j) : RD n tb f st a' b := by
  obtain ⟨hX, hM, hst, h1, h2, h3, h4, h5, h6, h7, h8, h9, h10, h11, h12⟩ := h
  have e : ∀ j, j < 7 → a' 0 29 j = a 0 29 j := fun j hj => hk 0 29 j (Or.inl rfl) (Or.inl hj)
  refine ⟨⟨hX.1, by rw [e 1 (by decide)]; exact hX.2.1, fun j hj => by rw [hk 0 30 j (Or.inr rfl) (Or.inr rfl)]; exact hX.2.2 j hj⟩, hM, hst, by rw [e 2 (by decide)]; exact h1, h2, by rw [e 4 (by decide)]; exact h3, h4, h5, by rw [e 5 (by decide)]; exact h6, h7, by rw [e 6 (by decide)]; exact h8, by rw [e 3 (by decide)]; exact h9, h10, h11, h12⟩
theorem RD.M {n : Nat} {tb : Nat → Nat} {f st : Nat} {a b b' : mx_S} (h : RD n tb f st a b) (hk : ∀ k o j, o = 39 ∨ o = 46 → b' k o j = b k o j) : RD n tb f st a b' := by
  obtain ⟨hX, hM, hst, h1, h2, h3, h4, h5, h6, h7, h8, h9, h10, h11, h12⟩ := h
  have e : ∀ j, b' 0 39 j = b 0 39 j := fun j => hk 0 39 j (Or.inl rfl)
  refine ⟨hX, ⟨hM.1, by rw [e 13]; exact hM.2.1, fun j hj => by rw [hk 0 46 j (Or.inr rfl)]; exact hM.2.2 j hj⟩, hst, h1, by rw [e 16]; exact h2, h3, by rw [e 14]; exact h4, by rw [e 17]; exact h5, h6, by rw [e 15]; exact h7, h8, h9, by rw [e 18]; exact h10, h11, fun q => by rw [e 19]; exact h12 q⟩
/-- a fault, told by both -/
theorem RD.bad {n : Nat} {tb : Nat → Nat} {st : Nat} {a b : mx_S} (h : RD n tb 0 st a b) (c : Nat) (hc : c ≤ 3) : RD n tb c st (mx_up a 0 29 3 (nI c)) (mx_up (mx_up b 0 39 18 (nI c)) 0 39 19 (nI st)) := by
  obtain ⟨hX, hM, hst, h1, h2, h3, h4, h5, h6, h7, h8, h9, h10, h11, h12⟩ := h
  refine ⟨hX.up (by decide), (hM.up (by decide)).up (by decide), hst, by rw [q_uj (by decide)]; exact h1, by rw [q_uj (by decide), q_uj (by decide)]; exact h2, by rw [q_uj (by decide)]; exact h3, by rw [q_uj (by decide), q_uj (by decide)]; exact h4, by rw [q_uj (by decide), q_uj (by decide)]; exact h5, by rw [q_uj (by decide)]; exact h6, by rw [q_uj (by decide), q_uj (by decide)]; exact h7, by rw [q_uj (by decide)]; exact h8, q_us, by rw [q_uj (by decide), q_us], hc, fun _ => q_us⟩
theorem bad_kX {a : mx_S} {c : Nat} : kq SRX a (mx_up a 0 29 3 (nI c)) := kq_up kq_rf ⟨rfl, by omega⟩
theorem bad_kM {b : mx_S} {x y : Int32} : kq SRM b (mx_up (mx_up b 0 39 18 x) 0 39 19 y) := kq_up (kq_up kq_rf ⟨rfl, by omega⟩) ⟨rfl, by omega⟩
theorem s_bad0 {n : Nat} {tb : Nat → Nat} {st : Nat} {a b : mx_S} (h : RD n tb 0 st a b) (x : Int32) : mx_sem 126 [mx_R 0 39, mx_I x] b = some (none, mx_up (mx_up b 0 39 18 x) 0 39 19 (nI st)) := by
  obtain ⟨hX, hM, hst, h1, h2, h3, h4, h5, h6, h7, h8, h9, h10, h11, h12⟩ := h
  rw [e_M_bad, h10, if_pos (by decide), q_w, q_w, q_uj (by decide), h2]
theorem RD.f0 {n : Nat} {tb : Nat → Nat} {f st : Nat} {a b : mx_S} (h : RD n tb f st a b) (hf : f ≠ 0) : ¬ a 0 29 3 = 0 ∧ ¬ b 0 39 18 = 0 ∧ ¬ b 0 39 18 ≤ 0 := by
  obtain ⟨hX, hM, hst, h1, h2, h3, h4, h5, h6, h7, h8, h9, h10, h11, h12⟩ := h
  rw [h9, h10]
  refine ⟨?_, ?_, ?_⟩
  · rw [q_lit, q_eqN (by omega) (by decide)]; exact hf
  · rw [q_lit, q_eqN (by omega) (by decide)]; exact hf
  · rw [q_lit, q_leN (by omega) (by decide)]; show ¬ f ≤ 0; omega
theorem RD.fx {n : Nat} {tb : Nat → Nat} {st : Nat} {a b : mx_S} (h : RD n tb 0 st a b) : a 0 29 3 = 0 ∧ b 0 39 18 = 0 := ⟨h.2.2.2.2.2.2.2.2.2.2.2.1, h.2.2.2.2.2.2.2.2.2.2.2.2.1⟩
theorem s_badF {n : Nat} {tb : Nat → Nat} {f st : Nat} {a b : mx_S} (h : RD n tb f st a b) (hf : f ≠ 0) (x : Int32) : mx_sem 126 [mx_R 0 39, mx_I x] b = some (none, b) := by
  rw [e_M_bad, if_neg (h.f0 hf).2.1]
theorem s_mustF {n : Nat} {tb : Nat → Nat} {f st : Nat} {a b : mx_S} (h : RD n tb f st a b) (hf : f ≠ 0) (x : Int32) : mx_sem 132 [mx_R 0 39, mx_I x] b = some (none, b) := by
  rw [e_M_must, s_badF h hf, q_bV, if_neg (h.f0 hf).2.1, ite_self]
theorem s_must1 {n : Nat} {tb : Nat → Nat} {st : Nat} {a b b' : mx_S} (h : RD n tb 0 st a b) (hn : mx_sem 130 [mx_R 0 39] b = some (none, b')) : mx_sem 132 [mx_R 0 39, mx_I 1] b = some (none, b') := by
  rw [e_M_must, if_neg (by decide), if_pos h.fx.2, hn, q_bV]
theorem s_must0 {n : Nat} {tb : Nat → Nat} {st : Nat} {a b : mx_S} (h : RD n tb 0 st a b) : mx_sem 132 [mx_R 0 39, mx_I 0] b = some (none, mx_up (mx_up b 0 39 18 1) 0 39 19 (nI st)) := by
  rw [e_M_must, if_pos rfl, s_bad0 h, q_bV, if_neg]
  rw [q_uj (by decide), q_us]; decide
/-- both go on from (f, st, a, b) -/
def Gn (n : Nat) (tb : Nat → Nat) (a b a' b' : mx_S) (f' : Nat) : Prop := ∃ st', RD n tb f' st' a' b' ∧ kq SRX a a' ∧ kq SRM b b'
theorem SaX_S : ∀ k o j, SaX o j → SRX k o j := fun k o j h => ⟨h.1, by have := h.2; omega⟩
theorem SaM_S : ∀ k o j, SaM o j → SRM k o j := fun k o j h => ⟨h.1, by have := h.2; omega⟩
theorem RD.nx {n : Nat} {tb : Nat → Nat} (htb : ∀ j, tb j < 256) {st : Nat} {a b : mx_S} (h : RD n tb 0 st a b) : ∃ a' b', mx_sem 51 [mx_R 0 29] a = some (none, a') ∧ mx_sem 130 [mx_R 0 39] b = some (none, b') ∧ Gn n tb a b a' b' 0 := by
  obtain ⟨a', b', h1, h2, h3, h4, h5⟩ := RD.adv htb h
  exact ⟨a', b', h1, h2, _, h3, kq_g h4 SaX_S, kq_g h5 SaM_S⟩
theorem p_sign {n : Nat} {tb : Nat → Nat} (htb : ∀ j, tb j < 256) {f st : Nat} {a b : mx_S} (h : RD n tb f st a b) : ∃ a' b' f', mx_sem 56 [mx_R 0 29] a = some (none, a') ∧ mx_sem 165 [mx_R 0 39] b = some (none, b') ∧ Gn n tb a b a' b' f' ∧ (f ≠ 0 → f' ≠ 0) := by
  have hK := tkK_le (tb := tb) (n := n) (st := st)
  by_cases hf : f = 0
  · subst hf
    have h7 := h.2.2.2.2.2.2.2.2.2.1
    have h6 := h.2.2.2.2.2.2.2.2.1
    by_cases hk : tkK tb n st = 3
    · obtain ⟨a', b', x1, x2, x3⟩ := h.nx htb
      refine ⟨a', b', 0, ?_, ?_, x3, fun q => q⟩
      · rw [e_R_takeSign, if_pos h.fx.1, h6, hk, if_pos (by decide), if_pos h.fx.1, x1, q_bV]
      · rw [e_M_mustEnd, if_pos h.fx.2, h7, hk, if_pos (by decide), s_must1 h x2, q_bV]
    · refine ⟨_, _, 1, ?_, ?_, ⟨st, h.bad 1 (by decide), bad_kX, bad_kM⟩, fun q => absurd rfl q⟩
      · rw [e_R_takeSign, if_pos h.fx.1, h6, if_neg (by rw [q_lit, q_eqN (by omega) (by decide)]; exact hk), q_w, if_neg (by rw [q_us]; decide)]; rfl
      · rw [e_M_mustEnd, if_pos h.fx.2, h7, if_neg (by rw [q_lit, q_eqN (by unfold tkm; split <;> omega) (by decide)]; unfold tkm; split <;> omega), s_must0 h, q_bV]; rfl
  · refine ⟨a, b, f, ?_, ?_, ⟨st, h, kq_rf, kq_rf⟩, fun _ => hf⟩
    · rw [e_R_takeSign, if_neg (h.f0 hf).1, if_neg (h.f0 hf).1]
    · rw [e_M_mustEnd, if_neg (h.f0 hf).2.1]
theorem p_num {n : Nat} {tb : Nat → Nat} (htb : ∀ j, tb j < 256) (lo hi : Int32) {f st : Nat} {a b : mx_S} (h : RD n tb f st a b) : ∃ x y a' b' f', mx_sem 55 [mx_R 0 29, mx_I lo, mx_I hi] a = some (some (mx_I x), a') ∧ mx_sem 164 [mx_R 0 39, mx_I lo, mx_I hi] b = some (some (mx_I y), b') ∧ Gn n tb a b a' b' f' ∧ (f ≠ 0 → f' ≠ 0) ∧ (f' = 0 → ∃ v : Nat, x = nI v ∧ y = nI v ∧ lo.toInt ≤ v ∧ v ≤ hi.toInt ∧ v < 1000 ∧ tkK tb n st = 2 ∧ v = fgV tb n st) := by
  have hK := tkK_le (tb := tb) (n := n) (st := st)
  have hv := fgV_lt (tb := tb) (n := n) (st := st)
  by_cases hf : f = 0
  · subst hf
    have h7 := h.2.2.2.2.2.2.2.2.2.1
    have h6 := h.2.2.2.2.2.2.2.2.1
    have h8 := h.2.2.2.2.2.2.2.2.2.2.1
    have hX0 := e_R_takeNumber lo hi a
    have hM0 := e_M_number lo hi b
    rw [if_pos h.fx.1, h6] at hX0
    rw [if_pos (by rw [h.fx.2]; decide), s_figures htb h, q_bI, h7] at hM0
    by_cases hk : tkK tb n st = 2
    · have ev : fgV tb n st = dv tb st (tkE tb n st - st) := by unfold fgV; rw [if_pos hk]
      have e6 := h8 hk
      rw [← ev] at e6
      have hti : (nI (fgV tb n st)).toInt = (fgV tb n st : Int) := q_toI (by omega)
      rw [hk, if_pos (by decide), if_pos h.fx.1, e6] at hX0
      rw [hk, if_pos (by decide)] at hM0
      by_cases hin : lo.toInt ≤ (fgV tb n st : Int) ∧ (fgV tb n st : Int) ≤ hi.toInt
      · obtain ⟨a', b', x1, x2, x3⟩ := h.nx htb
        rw [s_within2 _ _ _ (by omega) (by omega), q_bI, if_neg (by decide), if_pos h.fx.1, x1, q_bV] at hX0
        rw [s_in2 _ _ _ (by rw [q_wide, q_wide]; omega) (by rw [q_wide, q_wide]; omega), q_bI, if_neg (by decide), h7, hk, if_pos (by decide), s_must1 h x2, q_bV] at hM0
        exact ⟨_, _, a', b', 0, hX0, hM0, x3, fun q => q, fun _ => ⟨_, rfl, rfl, hin.1, hin.2, hv, hk, rfl⟩⟩
      · rw [s_within1 _ _ _ (by omega), q_bI, if_pos rfl, q_w, if_neg (by rw [q_us]; decide)] at hX0
        have h2 := h.bad 2 (by decide)
        have hmf := s_mustF h2 (by decide) 1
        rw [show (nI 2) = 2 from rfl] at hmf
        rw [s_in1 _ _ _ (by rw [q_wide, q_wide, q_wide]; omega), q_bI, if_pos rfl, s_bad0 h, q_bV, q_uj (by decide), q_uj (by decide), h7, hk, if_pos (by decide), hmf, q_bV] at hM0
        exact ⟨_, _, _, _, 2, hX0, hM0, ⟨st, h2, bad_kX, bad_kM⟩, fun q => absurd rfl q, fun q => absurd q (by decide)⟩
    · have n1 : ¬ nI (tkK tb n st) = 2 := by rw [q_lit, q_eqN (by omega) (by decide)]; exact hk
      have n2 : ¬ nI (tkm (tkK tb n st)) = 3 := by rw [q_lit, q_eqN (by unfold tkm; split <;> omega) (by decide)]; unfold tkm; split <;> omega
      rw [if_neg n1, q_w, if_neg (by rw [q_us]; decide), if_neg (by rw [q_us]; decide)] at hX0
      rw [if_neg n2, if_neg n2, s_must0 h, q_bV] at hM0
      exact ⟨_, _, _, _, 1, hX0, hM0, ⟨st, h.bad 1 (by decide), bad_kX, bad_kM⟩, fun q => absurd rfl q, fun q => absurd q (by decide)⟩
  · refine ⟨a 0 29 6, 0, a, b, f, ?_, ?_, ⟨st, h, kq_rf, kq_rf⟩, fun _ => hf, fun q => absurd q hf⟩
    · rw [e_R_takeNumber, if_neg (h.f0 hf).1, if_neg (h.f0 hf).1, if_neg (h.f0 hf).1]
    · rw [e_M_number, if_neg (h.f0 hf).2.2]
