/-! ===== a token, by both readers ===== -/
def tkS (tb : Nat → Nat) (n c : Nat) : Nat := endP (fun i => isB (tb i)) (n - c) c
/-- of what begins at s: its end, its kind (0 end, 1 name, 2 number, 3 sign, 4 none) -/
def tkE (tb : Nat → Nat) (n s : Nat) : Nat := if n ≤ s then s else if isL (tb s) then endP (fun i => isL (tb i)) (n - s) s else if isD (tb s) then endP (fun i => isD (tb i)) (n - s) s else s + 1
def tkK (tb : Nat → Nat) (n s : Nat) : Nat := if n ≤ s then 0 else if isL (tb s) then 1 else if isD (tb s) then (if 3 < tkE tb n s - s then 4 else 2) else if tb s = 59 then 3 else 4
def SaX (o j : Nat) : Prop := o = 29 ∧ (j = 2 ∨ j = 4 ∨ j = 5 ∨ j = 6)
def SaM (o j : Nat) : Prop := o = 39 ∧ (j = 14 ∨ j = 15 ∨ j = 16 ∨ j = 17)
def tkm (k : Nat) : Nat := if k = 4 then 0 else k + 1
theorem s_adv_l {n : Nat} {tb : Nat → Nat} (htb : ∀ j, tb j < 256) : ∀ (d c : Nat) (a : mx_S), c + d = n → TX n tb a → a 0 29 4 = nI c → ∃ a', mx_H 51 0 [some (mx_R 0 29)] a = some (none, a') ∧ a' 0 29 2 = nI (endP (fun i => isB (tb i)) d c) ∧ a' 0 29 4 = nI (tkE tb n (endP (fun i => isB (tb i)) d c)) ∧ a' 0 29 5 = nI (tkK tb n (endP (fun i => isB (tb i)) d c)) ∧ (tkK tb n (endP (fun i => isB (tb i)) d c) = 2 → a' 0 29 6 = nI (dv tb (endP (fun i => isB (tb i)) d c) (tkE tb n (endP (fun i => isB (tb i)) d c) - endP (fun i => isB (tb i)) d c))) ∧ kpg SaX a a' := by
  intro d
  induction d with
  | zero =>
    intro c a hd hT hc
    have hn := hT.1
    have ec : c = n := by omega
    subst ec
    refine ⟨mx_up (mx_up a 0 29 2 (nI c)) 0 29 5 0, ?_, ?_, ?_, ?_, ?_, ?_⟩
    · rw [e_R_advance_0, hT.2.1, hc, if_pos ((q_leN (by omega) (by omega)).mpr (Nat.le_refl _)), q_w, q_uj (by decide), q_uj (by decide), hT.2.1, hc, if_neg (by rw [q_ltN (by omega) (by omega)]; omega), q_w]
    · show _ = nI c
      rw [q_uj (by decide), q_us]
    · show _ = nI (tkE tb c c)
      rw [q_uj (by decide), q_uj (by decide), hc]
      unfold tkE
      rw [if_pos (Nat.le_refl c)]
    · show _ = nI (tkK tb c c)
      unfold tkK
      rw [if_pos (Nat.le_refl c), q_us]; rfl
    · intro h
      unfold endP tkK at h
      rw [if_pos (Nat.le_refl c)] at h
      cases h
    · exact kpg_up (kpg_up kpg_rf ⟨rfl, by omega⟩) ⟨rfl, by omega⟩
  | succ d ih =>
    intro c a hd hT hc
    have hn := hT.1
    have hsx := sx_toInt (tb c) (htb c)
    have hb256 := htb c
    have e32 : sx (tb c) = 32 ↔ tb c = 32 := by
      rw [q_eq, hsx, show (32 : Int32).toInt = 32 from rfl]
      split <;> omega
    have e10 : sx (tb c) = 10 ↔ tb c = 10 := by
      rw [q_eq, hsx, show (10 : Int32).toInt = 10 from rfl]
      split <;> omega
    have e59 : sx (tb c) = 59 ↔ tb c = 59 := by
      rw [q_eq, hsx, show (59 : Int32).toInt = 59 from rfl]
      split <;> omega
    have hX0 := e_R_advance_0 a
    rw [hT.2.1, hc, if_neg (by rw [q_leN (by omega) (by omega)]; omega), q_g (by omega) (by decide), q_g (by omega) (by decide), hT.2.2 c (by omega)] at hX0
    by_cases hB : isB (tb c) = true
    · have eE : endP (fun i => isB (tb i)) (d + 1) c = endP (fun i => isB (tb i)) d (c + 1) := by
        show (if isB (tb c) then _ else _) = _
        rw [if_pos hB]
      rw [eE]
      obtain ⟨a', h1, h2⟩ := ih (c + 1) (mx_up a 0 29 4 (nI (c + 1))) (by omega) (hT.up (by decide)) q_us
      refine ⟨a', ?_, h2.1, h2.2.1, h2.2.2.1, h2.2.2.2.1, kpg_tr (kpg_up kpg_rf ⟨rfl, by omega⟩) h2.2.2.2.2⟩
      simp only [isB, decide_eq_true_eq] at hB
      rw [hX0]
      by_cases h32 : tb c = 32
      · rw [if_pos (e32.mpr h32), q_w, nI_1]; exact h1
      · rw [if_neg (fun z => h32 (e32.mp z)), if_pos (e10.mpr (hB.resolve_left h32)), q_w, nI_1]; exact h1
    · have eE : endP (fun i => isB (tb i)) (d + 1) c = c := by
        show (if isB (tb c) then _ else _) = _
        rw [if_neg hB]
      rw [eE]
      simp only [isB, decide_eq_true_eq, not_or] at hB
      have hT2 : TX n tb (mx_up a 0 29 2 (nI c)) := hT.up (by decide)
      have hc2 : mx_up a 0 29 2 (nI c) 0 29 4 = nI c := by rw [q_uj (by decide)]; exact hc
      have hk2 : kpg SaX a (mx_up a 0 29 2 (nI c)) := kpg_up kpg_rf ⟨rfl, by omega⟩
      rw [if_neg (fun z => hB.1 (e32.mp z)), if_neg (fun z => hB.2 (e10.mp z)), q_w, hc2, hT2.2.1, if_pos ((q_ltN (by omega) (by omega)).mpr (by omega)), q_g (by omega) (by decide), hT2.2.2 c (by omega), within_L (htb c) 97 122 97 122 rfl rfl (by decide), q_bI] at hX0
      by_cases hL : isL (tb c) = true
      · rw [if_pos (show (decide (97 ≤ tb c ∧ tb c ≤ 122)) = true from hL), if_neg (by decide), e_R_passName, q_w, s_passName htb (d + 1) c _ (by omega) (hT2.up (by decide)) (by rw [q_uj (by decide)]; exact hc2), q_bV] at hX0
        have eT : tkE tb n c = endP (fun i => isL (tb i)) (d + 1) c := by
          unfold tkE
          rw [if_neg (by omega), if_pos hL, show n - c = d + 1 by omega]
        have eK : tkK tb n c = 1 := by
          unfold tkK
          rw [if_neg (by omega), if_pos hL]
        refine ⟨_, hX0, ?_, ?_, ?_, ?_, kpg_up (kpg_up hk2 ⟨rfl, by omega⟩) ⟨rfl, by omega⟩⟩
        · rw [q_uj (by decide), q_uj (by decide), q_us]
        · rw [q_us, eT]
        · rw [q_uj (by decide), q_us, eK]; rfl
        · rw [eK]; intro h; cases h
      · rw [if_neg (show ¬ (decide (97 ≤ tb c ∧ tb c ≤ 122)) = true from hL), if_pos rfl, hc2, q_g (by omega) (by decide), hT2.2.2 c (by omega), within_L (htb c) 48 57 48 57 rfl rfl (by decide), q_bI] at hX0
        by_cases hD : isD (tb c) = true
        · rw [if_pos (show (decide (48 ≤ tb c ∧ tb c ≤ 57)) = true from hD), if_neg (by decide), e_R_passNumber, q_w, s_passNum htb c (d + 1) c _ (by omega) (Nat.le_refl c) (fun i h1 h2 => by omega) (hT2.up (by decide)) (by rw [q_uj (by decide)]; exact hc2) (by rw [q_uj (by decide), q_us]) (by rw [q_us, Nat.sub_self]; rfl), q_bV] at hX0
          have eT : tkE tb n c = endP (fun i => isD (tb i)) (d + 1) c := by
            unfold tkE
            rw [if_neg (by omega), if_neg hL, if_pos hD, show n - c = d + 1 by omega]
          have eK : tkK tb n c = if 3 < tkE tb n c - c then 4 else 2 := by
            conv => lhs; unfold tkK
            rw [if_neg (by omega), if_neg hL, if_pos hD]
          refine ⟨_, hX0, ?_, ?_, ?_, ?_, kpg_up (kpg_up (kpg_up (kpg_up hk2 ⟨rfl, by omega⟩) ⟨rfl, by omega⟩) ⟨rfl, by omega⟩) ⟨rfl, by omega⟩⟩
          · rw [q_uj (by decide), q_uj (by decide), q_uj (by decide), q_uj (by decide), q_us]
          · rw [q_uj (by decide), q_uj (by decide), q_us, eT]
          · rw [q_us, eK, eT]
            split <;> rfl
          · intro h
            rw [eK] at h
            split at h
            · cases h
            · rename_i h3
              rw [q_uj (by decide), q_us, eT] at *
              rw [show min (endP (fun i => isD (tb i)) (d + 1) c - c) 3 = endP (fun i => isD (tb i)) (d + 1) c - c by omega]
        · rw [if_neg (show ¬ (decide (48 ≤ tb c ∧ tb c ≤ 57)) = true from hD), if_pos rfl, hc2, q_g (by omega) (by decide), hT2.2.2 c (by omega)] at hX0
          have eT : tkE tb n c = c + 1 := by
            unfold tkE
            rw [if_neg (by omega), if_neg hL, if_neg hD]
          by_cases h59 : tb c = 59
          · rw [if_pos (e59.mpr h59), q_w, q_w, q_uj (by decide), hc2, nI_1] at hX0
            have eK : tkK tb n c = 3 := by
              unfold tkK
              rw [if_neg (by omega), if_neg hL, if_neg hD, if_pos h59]
            refine ⟨_, hX0, ?_, ?_, ?_, ?_, kpg_up (kpg_up hk2 ⟨rfl, by omega⟩) ⟨rfl, by omega⟩⟩
            · rw [q_uj (by decide), q_uj (by decide), q_us]
            · rw [q_us, eT]
            · rw [q_uj (by decide), q_us, eK]; rfl
            · rw [eK]; intro h; cases h
          · rw [if_neg (fun z => h59 (e59.mp z)), q_w, q_w, q_uj (by decide), hc2, nI_1] at hX0
            have eK : tkK tb n c = 4 := by
              unfold tkK
              rw [if_neg (by omega), if_neg hL, if_neg hD, if_neg h59]
            refine ⟨_, hX0, ?_, ?_, ?_, ?_, kpg_up (kpg_up hk2 ⟨rfl, by omega⟩) ⟨rfl, by omega⟩⟩
            · rw [q_uj (by decide), q_uj (by decide), q_us]
            · rw [q_us, eT]
            · rw [q_uj (by decide), q_us, eK]; rfl
            · rw [eK]; intro h; cases h
theorem s_adv {n : Nat} {tb : Nat → Nat} (htb : ∀ j, tb j < 256) (c : Nat) (a : mx_S) (hcn : c ≤ n) (hT : TX n tb a) (hc : a 0 29 4 = nI c) : ∃ a', mx_sem 51 [mx_R 0 29] a = some (none, a') ∧ a' 0 29 2 = nI (tkS tb n c) ∧ a' 0 29 4 = nI (tkE tb n (tkS tb n c)) ∧ a' 0 29 5 = nI (tkK tb n (tkS tb n c)) ∧ (tkK tb n (tkS tb n c) = 2 → a' 0 29 6 = nI (dv tb (tkS tb n c) (tkE tb n (tkS tb n c) - tkS tb n c))) ∧ kpg SaX a a' := by
  obtain ⟨a', h1, h2⟩ := s_adv_l htb (n - c) c a (by omega) hT hc
  refine ⟨a', ?_, h2⟩
  rw [← h1, e_R_advance, e_R_advance_0]
theorem s_byteAt1 {n : Nat} {tb : Nat → Nat} {b : mx_S} (hT : TM n tb b) {c : Nat} (hc : c < n) : mx_sem 127 [mx_R 0 39, mx_I (nI c)] b = some (some (mx_I (nI (tb c))), b) := by
  have hn := hT.1
  rw [e_M_byteAt, hT.2.1, if_neg (by rw [q_leN (by omega) (by omega)]; omega), q_g (by omega) (by decide), hT.2.2 c hc]
theorem s_byteAt2 {n : Nat} {tb : Nat → Nat} {b : mx_S} (hT : TM n tb b) {c : Nat} (hc : n ≤ c) (hc2 : c ≤ 400) : mx_sem 127 [mx_R 0 39, mx_I (nI c)] b = some (some (mx_I (-1000000)), b) := by
  have hn := hT.1
  rw [e_M_byteAt, hT.2.1, if_pos ((q_leN (by omega) (by omega)).mpr hc)]
theorem s_isLetter {t : Nat} (ht : t < 256) (b : mx_S) : mx_sem 128 [mx_I (nI t)] b = some (some (mx_I (if isL t then 1 else 0)), b) := by
  rw [e_M_isLetter]
  by_cases h : isL t = true
  · have h2 := h
    simp only [isL, decide_eq_true_eq] at h2
    rw [if_neg (by rw [q_lit, q_ltN (by omega) (by decide)]; omega), if_neg (by rw [q_lit, q_ltN (by decide) (by omega)]; omega), if_pos h]
  · rw [if_neg h]
    simp only [isL, decide_eq_true_eq] at h
    split
    · rfl
    · rename_i h1
      rw [q_lit, q_ltN (by omega) (by decide)] at h1
      rw [if_pos (by rw [q_lit, q_ltN (by decide) (by omega)]; omega)]
theorem s_isFigure {t : Nat} (ht : t < 256) (b : mx_S) : mx_sem 129 [mx_I (nI t)] b = some (some (mx_I (if isD t then 1 else 0)), b) := by
  rw [e_M_isFigure]
  by_cases h : isD t = true
  · have h2 := h
    simp only [isD, decide_eq_true_eq] at h2
    rw [if_neg (by rw [q_lit, q_ltN (by omega) (by decide)]; omega), if_neg (by rw [q_lit, q_ltN (by decide) (by omega)]; omega), if_pos h]
  · rw [if_neg h]
    simp only [isD, decide_eq_true_eq] at h
    split
    · rfl
    · rename_i h1
      rw [q_lit, q_ltN (by omega) (by decide)] at h1
      rw [if_pos (by rw [q_lit, q_ltN (by decide) (by omega)]; omega)]
theorem s_isLetterN (b : mx_S) : mx_sem 128 [mx_I (-1000000)] b = some (some (mx_I 0), b) := by rw [e_M_isLetter, if_pos (by decide)]
theorem s_isFigureN (b : mx_S) : mx_sem 129 [mx_I (-1000000)] b = some (some (mx_I 0), b) := by rw [e_M_isFigure, if_pos (by decide)]
theorem s_next_L {n : Nat} {tb : Nat → Nat} (htb : ∀ j, tb j < 256) : ∀ (d c : Nat) (b : mx_S), c + d = n → TM n tb b → b 0 39 14 = nI c → mx_H 130 39 [some (mx_R 0 39), none] b = some (none, mx_up (mx_up (mx_up b 0 39 14 (nI (endP (fun i => isL (tb i)) d c))) 0 39 15 2) 0 39 17 (nI (endP (fun i => isL (tb i)) d c))) := by
  intro d
  induction d with
  | zero =>
    intro c b hd hT hc
    have hn := hT.1
    rw [e_M_next_39, hc, s_byteAt2 hT (by omega) (by omega), q_bI, s_isLetterN, q_bI, if_pos rfl, q_w, q_w, q_uj (by decide), hc]
    unfold endP
    rw [q_ui hc]
  | succ d ih =>
    intro c b hd hT hc
    have hn := hT.1
    rw [e_M_next_39, hc, s_byteAt1 hT (by omega), q_bI, s_isLetter (htb c), q_bI]
    unfold endP
    by_cases h : isL (tb c) = true
    · rw [if_pos h, if_neg (by decide), q_w, hc, nI_1, ih (c + 1) _ (by omega) (hT.up (by decide)) q_us, q_uu, if_pos h]
    · rw [if_neg h, if_pos rfl, q_w, q_w, q_uj (by decide), hc, if_neg h, q_ui hc]
theorem s_next_D {n : Nat} {tb : Nat → Nat} (htb : ∀ j, tb j < 256) (st : Nat) : ∀ (d c : Nat) (b : mx_S), c + d = n → st ≤ c → TM n tb b → b 0 39 14 = nI c → b 0 39 16 = nI st → mx_H 130 60 [some (mx_R 0 39), none] b = some (none, mx_up (mx_up (mx_up b 0 39 14 (nI (endP (fun i => isD (tb i)) d c))) 0 39 15 (if 3 < endP (fun i => isD (tb i)) d c - st then 0 else 3)) 0 39 17 (nI (endP (fun i => isD (tb i)) d c))) := by
  have fin : ∀ (c : Nat) (b : mx_S), st ≤ c → c ≤ 400 → b 0 39 14 = nI c → b 0 39 16 = nI st → (if nI c - nI st ≤ 3 then (mx_w (mx_up b 0 39 15 3) fun s5 => mx_w (mx_up s5 0 39 17 (s5 0 39 14)) fun s6 => some ((none : Option mx_V), s6)) else (mx_w (mx_up b 0 39 15 0) fun s7 => mx_w (mx_up s7 0 39 17 (s7 0 39 14)) fun s8 => some (none, s8))) = some (none, mx_up (mx_up (mx_up b 0 39 14 (nI c)) 0 39 15 (if 3 < c - st then 0 else 3)) 0 39 17 (nI c)) := by
    intro c b hst h4 hc hs
    rw [q_ui hc, q_sub hst]
    by_cases h3 : 3 < c - st
    · rw [if_neg (by rw [q_lit, q_leN (by omega) (by decide)]; omega), if_pos h3, q_w, q_w, q_uj (by decide), hc]
    · rw [if_pos (by rw [q_lit, q_leN (by omega) (by decide)]; omega), if_neg h3, q_w, q_w, q_uj (by decide), hc]
  intro d
  induction d with
  | zero =>
    intro c b hd hst hT hc hs
    have hn := hT.1
    rw [e_M_next_60, hc, s_byteAt2 hT (by omega) (by omega), q_bI, s_isFigureN, q_bI, if_pos rfl, hc, hs]
    exact fin c b hst (by omega) hc hs
  | succ d ih =>
    intro c b hd hst hT hc hs
    have hn := hT.1
    rw [e_M_next_60, hc, s_byteAt1 hT (by omega), q_bI, s_isFigure (htb c), q_bI]
    unfold endP
    by_cases h : isD (tb c) = true
    · rw [if_pos h, if_neg (by decide), q_w, hc, nI_1, ih (c + 1) _ (by omega) (by omega) (hT.up (by decide)) q_us (by rw [q_uj (by decide)]; exact hs), q_uu, if_pos h]
    · rw [if_neg h, if_pos rfl, hc, hs, if_neg h]
      exact fin c b hst (by omega) hc hs
theorem s_next_l {n : Nat} {tb : Nat → Nat} (htb : ∀ j, tb j < 256) : ∀ (d c : Nat) (b : mx_S), c + d = n → TM n tb b → b 0 39 14 = nI c → ∃ b', mx_H 130 0 [some (mx_R 0 39), none] b = some (none, b') ∧ b' 0 39 16 = nI (endP (fun i => isB (tb i)) d c) ∧ b' 0 39 14 = nI (tkE tb n (endP (fun i => isB (tb i)) d c)) ∧ b' 0 39 17 = nI (tkE tb n (endP (fun i => isB (tb i)) d c)) ∧ b' 0 39 15 = nI (tkm (tkK tb n (endP (fun i => isB (tb i)) d c))) ∧ kpg SaM b b' := by
  intro d
  induction d with
  | zero =>
    intro c b hd hT hc
    have hn := hT.1
    have ec : c = n := by omega
    subst ec
    refine ⟨mx_up (mx_up (mx_up b 0 39 16 (nI c)) 0 39 15 1) 0 39 17 (nI c), ?_, ?_, ?_, ?_, ?_, ?_⟩
    · rw [e_M_next_0, hc, s_byteAt2 hT (Nat.le_refl _) (by omega), q_bI, if_neg (by decide), hc, s_byteAt2 hT (Nat.le_refl _) (by omega), q_bI, if_neg (by decide), hc, q_w, q_uj (by decide), hc, s_byteAt2 (hT.up (by decide)) (Nat.le_refl _) (by omega), q_bI, if_pos rfl, q_w, q_w, q_uj (by decide), q_uj (by decide), hc]
    · show _ = nI c
      rw [q_uj (by decide), q_uj (by decide), q_us]
    · show _ = nI (tkE tb c c)
      rw [q_uj (by decide), q_uj (by decide), q_uj (by decide), hc]
      unfold tkE
      rw [if_pos (Nat.le_refl c)]
    · show _ = nI (tkE tb c c)
      unfold tkE
      rw [if_pos (Nat.le_refl c), q_us]
    · show _ = nI (tkm (tkK tb c c))
      unfold tkK
      rw [if_pos (Nat.le_refl c), q_uj (by decide), q_us]; rfl
    · exact kpg_up (kpg_up (kpg_up kpg_rf ⟨rfl, by omega⟩) ⟨rfl, by omega⟩) ⟨rfl, by omega⟩
  | succ d ih =>
    intro c b hd hT hc
    have hn := hT.1
    have hb256 := htb c
    have e32 : nI (tb c) = 32 ↔ tb c = 32 := by rw [q_lit, q_eqN (by omega) (by decide)]
    have e10 : nI (tb c) = 10 ↔ tb c = 10 := by rw [q_lit, q_eqN (by omega) (by decide)]
    have e59 : nI (tb c) = 59 ↔ tb c = 59 := by rw [q_lit, q_eqN (by omega) (by decide)]
    have eN : ¬ nI (tb c) = -1000000 := by
      rw [q_eq, q_toI (by omega), show (-1000000 : Int32).toInt = -1000000 from rfl]
      omega
    have hX0 := e_M_next_0 b
    rw [hc, s_byteAt1 hT (by omega), q_bI, hc, s_byteAt1 hT (by omega), q_bI] at hX0
    by_cases hB : isB (tb c) = true
    · have eE : endP (fun i => isB (tb i)) (d + 1) c = endP (fun i => isB (tb i)) d (c + 1) := by
        show (if isB (tb c) then _ else _) = _
        rw [if_pos hB]
      rw [eE]
      obtain ⟨b', h1, h2⟩ := ih (c + 1) (mx_up b 0 39 14 (nI (c + 1))) (by omega) (hT.up (by decide)) q_us
      refine ⟨b', ?_, h2.1, h2.2.1, h2.2.2.1, h2.2.2.2.1, kpg_tr (kpg_up kpg_rf ⟨rfl, by omega⟩) h2.2.2.2.2⟩
      simp only [isB, decide_eq_true_eq] at hB
      rw [hX0]
      by_cases h32 : tb c = 32
      · rw [if_pos (e32.mpr h32), q_w, nI_1]; exact h1
      · rw [if_neg (fun z => h32 (e32.mp z)), if_pos (e10.mpr (hB.resolve_left h32)), q_w, hc, nI_1]; exact h1
    · have eE : endP (fun i => isB (tb i)) (d + 1) c = c := by
        show (if isB (tb c) then _ else _) = _
        rw [if_neg hB]
      rw [eE]
      simp only [isB, decide_eq_true_eq, not_or] at hB
      have hT2 : TM n tb (mx_up b 0 39 16 (nI c)) := hT.up (by decide)
      have hc2 : mx_up b 0 39 16 (nI c) 0 39 14 = nI c := by rw [q_uj (by decide)]; exact hc
      have hk2 : kpg SaM b (mx_up b 0 39 16 (nI c)) := kpg_up kpg_rf ⟨rfl, by omega⟩
      rw [if_neg (fun z => hB.1 (e32.mp z)), if_neg (fun z => hB.2 (e10.mp z)), q_w, hc, hc2, s_byteAt1 hT2 (by omega), q_bI, if_neg eN, s_isLetter hb256, q_bI] at hX0
      by_cases hL : isL (tb c) = true
      · rw [if_pos hL, if_neg (by decide), s_next_L htb (d + 1) c _ (by omega) hT2 hc2] at hX0
        have eT : tkE tb n c = endP (fun i => isL (tb i)) (d + 1) c := by
          unfold tkE
          rw [if_neg (by omega), if_pos hL, show n - c = d + 1 by omega]
        have eK : tkK tb n c = 1 := by
          unfold tkK
          rw [if_neg (by omega), if_pos hL]
        refine ⟨_, hX0, ?_, ?_, ?_, ?_, kpg_up (kpg_up (kpg_up hk2 ⟨rfl, by omega⟩) ⟨rfl, by omega⟩) ⟨rfl, by omega⟩⟩
        · rw [q_uj (by decide), q_uj (by decide), q_uj (by decide), q_us]
        · rw [q_uj (by decide), q_uj (by decide), q_us, eT]
        · rw [q_us, eT]
        · rw [q_uj (by decide), q_us, eK]; rfl
      · rw [if_neg hL, if_pos rfl, s_isFigure hb256, q_bI] at hX0
        by_cases hD : isD (tb c) = true
        · rw [if_pos hD, if_neg (by decide), s_next_D htb c (d + 1) c _ (by omega) (Nat.le_refl c) hT2 hc2 q_us] at hX0
          have eT : tkE tb n c = endP (fun i => isD (tb i)) (d + 1) c := by
            unfold tkE
            rw [if_neg (by omega), if_neg hL, if_pos hD, show n - c = d + 1 by omega]
          have eK : tkK tb n c = if 3 < tkE tb n c - c then 4 else 2 := by
            conv => lhs; unfold tkK
            rw [if_neg (by omega), if_neg hL, if_pos hD]
          refine ⟨_, hX0, ?_, ?_, ?_, ?_, kpg_up (kpg_up (kpg_up hk2 ⟨rfl, by omega⟩) ⟨rfl, by omega⟩) ⟨rfl, by omega⟩⟩
          · rw [q_uj (by decide), q_uj (by decide), q_uj (by decide), q_us]
          · rw [q_uj (by decide), q_uj (by decide), q_us, eT]
          · rw [q_us, eT]
          · rw [q_uj (by decide), q_us, eK, eT]
            split <;> rfl
        · rw [if_neg hD, if_pos rfl, q_w, hc2, nI_1] at hX0
          have eT : tkE tb n c = c + 1 := by
            unfold tkE
            rw [if_neg (by omega), if_neg hL, if_neg hD]
          by_cases h59 : tb c = 59
          · rw [if_pos (e59.mpr h59), q_w, q_w, q_uj (by decide), q_us] at hX0
            have eK : tkK tb n c = 3 := by
              unfold tkK
              rw [if_neg (by omega), if_neg hL, if_neg hD, if_pos h59]
            refine ⟨_, hX0, ?_, ?_, ?_, ?_, kpg_up (kpg_up (kpg_up hk2 ⟨rfl, by omega⟩) ⟨rfl, by omega⟩) ⟨rfl, by omega⟩⟩
            · rw [q_uj (by decide), q_uj (by decide), q_uj (by decide), q_us]
            · rw [q_uj (by decide), q_uj (by decide), q_us, eT]
            · rw [q_us, eT]
            · rw [q_uj (by decide), q_us, eK]; rfl
          · rw [if_neg (fun z => h59 (e59.mp z)), q_w, q_w, q_uj (by decide), q_us] at hX0
            have eK : tkK tb n c = 4 := by
              unfold tkK
              rw [if_neg (by omega), if_neg hL, if_neg hD, if_neg h59]
            refine ⟨_, hX0, ?_, ?_, ?_, ?_, kpg_up (kpg_up (kpg_up hk2 ⟨rfl, by omega⟩) ⟨rfl, by omega⟩) ⟨rfl, by omega⟩⟩
            · rw [q_uj (by decide), q_uj (by decide), q_uj (by decide), q_us]
            · rw [q_uj (by decide), q_uj (by decide), q_us, eT]
            · rw [q_us, eT]
            · rw [q_uj (by decide), q_us, eK]; rfl
theorem s_next {n : Nat} {tb : Nat → Nat} (htb : ∀ j, tb j < 256) (c : Nat) (b : mx_S) (hcn : c ≤ n) (hT : TM n tb b) (hc : b 0 39 14 = nI c) : ∃ b', mx_sem 130 [mx_R 0 39] b = some (none, b') ∧ b' 0 39 16 = nI (tkS tb n c) ∧ b' 0 39 14 = nI (tkE tb n (tkS tb n c)) ∧ b' 0 39 17 = nI (tkE tb n (tkS tb n c)) ∧ b' 0 39 15 = nI (tkm (tkK tb n (tkS tb n c))) ∧ kpg SaM b b' := by
  obtain ⟨b', h1, h2⟩ := s_next_l htb (n - c) c b (by omega) hT hc
  refine ⟨b', ?_, h2⟩
  rw [← h1, e_M_next, e_M_next_0]
