/-! ===== hangings: M ===== -/
/-- what M's hanging may change -/
def SH (np k o j : Nat) : Prop := o = 44 ∨ (48 ≤ o ∧ o ≤ 50) ∨ (k = 1 ∧ o = 45) ∨ (k = 0 ∧ o = 39 ∧ j = 27) ∨ (k = 0 ∧ o = 43 ∧ 40 ≤ j ∧ j < 40 + 2 * np)
theorem g402 {α : Type} {fl : α} {k : Nat} {f : Nat → α} (hk : k < 8) : mx_g fl ((40 : Int32) + (2 : Int32) * nI k) 80 f = f (40 + 2 * k) := q_gx (by rw [q_lit, q_lit, q_mul, q_add]) (by omega) (by decide)
def FrH (h : Nat → Nat) (np : Nat) (b : mx_S) : Prop := ∀ k, k < np → b 0 44 (40 + 2 * k) = nI (h (40 + 2 * k))
theorem m_hung29 {h : Nat → Nat} {np : Nat} (hn4 : np ≤ 4) (hn : np = h 4) {x1 x2 : Int32} : ∀ (d k : Nat) (b : mx_S), k + d = np → MH 43 h b → FrH h k b → ∃ b', mx_H 176 29 [some (mx_R 0 39), some (mx_I x1), some (mx_I x2), some (mx_I (nI np)), some (mx_I (nI k)), none, none, none] b = mx_H 176 58 [some (mx_R 0 39), some (mx_I x1), some (mx_I x2), some (mx_I (nI np)), some (mx_I (nI 1)), some (mx_I (nI 0)), none, none] b' ∧ FrH h np b' ∧ b' 0 39 27 = -1 ∧ kq (fun k o j => o = 44 ∨ (k = 0 ∧ o = 39 ∧ j = 27)) b b' := by
  intro d
  induction d with
  | zero =>
    intro k b hd hm hf
    have ek : k = np := by omega
    subst ek
    have hX := e_M_hung_29 x1 x2 (nI k) (nI k) b
    rw [if_pos ((q_leN (by omega) (by omega)).mpr (Nat.le_refl _)), q_w] at hX
    exact ⟨_, hX, fun i hi => by rw [q_uo (by decide)]; exact hf i hi, q_us, kq_up kq_rf (Or.inr ⟨rfl, rfl, rfl⟩)⟩
  | succ d ih =>
    intro k b hd hm hf
    have hX := e_M_hung_29 x1 x2 (nI np) (nI k) b
    rw [if_neg (by rw [q_leN (by omega) (by omega)]; omega), g402 (by omega), g402 (by omega), q_w, hm _ (by omega), nI_1] at hX
    have k1 : kq (fun k o j => o = 44 ∨ (k = 0 ∧ o = 39 ∧ j = 27)) b (mx_up b 0 44 (40 + 2 * k) (nI (h (40 + 2 * k)))) := kq_up kq_rf (Or.inl rfl)
    obtain ⟨b', y1, y2, y3, y4⟩ := ih (k + 1) (mx_up b 0 44 (40 + 2 * k) (nI (h (40 + 2 * k)))) (by omega) (hm.k (fun j => by rw [q_uo (by decide)])) (fun i hi => by
      by_cases e : i = k
      · subst e; rw [q_us]
      · rw [q_uj (by omega)]; exact hf i (by omega))
    exact ⟨b', hX.trans y1, y2, y3, kq_tr k1 y4⟩
theorem m_hung58 {np : Nat} (hn4 : np ≤ 4) {x1 x2 : Int32} {b : mx_S} : ∀ (d k : Nat), k + d = np → mx_H 176 58 [some (mx_R 0 39), some (mx_I x1), some (mx_I x2), some (mx_I (nI np)), some (mx_I (nI (np ^ k))), some (mx_I (nI k)), none, none] b = mx_H 176 70 [some (mx_R 0 39), some (mx_I x1), some (mx_I x2), some (mx_I (nI np)), some (mx_I (nI (np ^ np))), some (mx_I (nI 0)), none, none] b := by
  intro d
  induction d with
  | zero =>
    intro k hd
    have ek : k = np := by omega
    subst ek
    rw [e_M_hung_58, if_pos ((q_leN (by omega) (by omega)).mpr (Nat.le_refl _))]; rfl
  | succ d ih =>
    intro k hd
    rw [e_M_hung_58, if_neg (by rw [q_leN (by omega) (by omega)]; omega), q_mul, nI_1]
    exact ih (k + 1) (by omega)
/-- M's figures of a code -/
theorem m_hung80 {np code : Nat} (h0 : 0 < np) (hn4 : np ≤ 4) (hc : code < 1000) {x1 x2 x4 x5 : Int32} : ∀ (k : Nat) (b : mx_S), k ≤ np → ∃ b', mx_H 176 80 [some (mx_R 0 39), some (mx_I x1), some (mx_I x2), some (mx_I (nI np)), some (mx_I x4), some (mx_I x5), some (mx_I (nI (lfR np code (np - k)))), some (mx_I (nI k - 1))] b = mx_H 176 80 [some (mx_R 0 39), some (mx_I x1), some (mx_I x2), some (mx_I (nI np)), some (mx_I x4), some (mx_I x5), some (mx_I (nI (lfR np code np))), some (mx_I (nI 0 - 1))] b' ∧ (∀ i, i < k → b' 0 49 i = nI (Pk np code i)) ∧ (∀ k' o j, ¬ (k' = 0 ∧ o = 49 ∧ j < k) → b' k' o j = b k' o j) := by
  intro k
  induction k with
  | zero =>
    intro b hk
    exact ⟨b, rfl, fun i hi => by omega, fun _ _ _ _ => rfl⟩
  | succ k ih =>
    intro b hk
    have hX := e_M_hung_80 x1 x2 (nI np) x4 x5 (nI (lfR np code (np - (k + 1)))) (nI (k + 1) - 1) b
    have ll := lfR_lt (np := np) hc (np - (k + 1))
    rw [nI_pred, if_neg (q_lt0 (by omega)), q_d h0 (by omega), q_g (show k < 8 by omega) (by decide), pk_rem (by omega) h0 (by omega), Pk_s (by omega), q_w, q_d h0 (by omega), pk_div (by omega) h0 (by omega), lf_s (by omega), show nI k + (-1) = nI k - 1 from (Int32.sub_eq_add_neg _ _).symm] at hX
    obtain ⟨b', y1, y2, y3⟩ := ih (mx_up b 0 49 k (nI (Pk np code k))) (by omega)
    refine ⟨b', by rw [nI_pred]; exact hX.trans y1, fun i hi => ?_, fun k' o j q => ?_⟩
    · by_cases e : i = k
      · subst e
        rw [y3 0 49 i (by omega), q_us]
      · exact y2 i (by omega)
    · rw [y3 k' o j (by omega), q_up, if_neg (by omega)]
theorem m_each {np code : Nat} (h0 : 0 < np) (hn4 : np ≤ 4) {b : mx_S} (hp : ∀ i, i < np → b 0 49 i = nI (Pk np code i)) : ∀ (d k : Nat), k + d = np → mx_H 175 5 [some (mx_R 0 39), some (mx_I (nI np)), some (mx_I (orU (Pk np code) k)), some (mx_I (nI k))] b = some (some (mx_I (if okC np code then 1 else 0)), b) := by
  intro d
  induction d with
  | zero =>
    intro k hd
    have ek : k = np := by omega
    subst ek
    rw [e_M_isEachOnce_5, if_pos ((q_leN (by omega) (by omega)).mpr (Nat.le_refl _))]
    unfold okC
    split <;> rfl
  | succ d ih =>
    intro k hd
    rw [e_M_isEachOnce_5, if_neg (by rw [q_leN (by omega) (by omega)]; omega), q_g (show k < 8 by omega) (by decide), hp k (by omega), nI_1]
    exact ih (k + 1) (by omega)
theorem m_hang3 {h : Nat → Nat} {np code : Nat} (h0 : 0 < np) (hn4 : np ≤ 4) {x2 : Int32} : ∀ (d k : Nat) (b : mx_S), k + d = np → (∀ i, i < np → b 0 49 i = nI (Pk np code i)) → FrH h np b → (∀ i, i < k → b 0 43 (40 + 2 * i) = nI (h (40 + 2 * Pk np code i))) → ∃ b', mx_H 162 3 [some (mx_R 0 39), some (mx_I (nI np)), some (mx_I x2), some (mx_I (nI k)), none] b = mx_bI none (mx_sem 145 [mx_R 0 39, mx_I x2, mx_I 0] b') (fun r2 s1 => mx_H 162 35 [some (mx_R 0 39), some (mx_I (nI np)), none, some (mx_I r2), some (mx_I 0)] s1) ∧ (∀ i, i < np → b' 0 43 (40 + 2 * i) = nI (h (40 + 2 * Pk np code i))) ∧ (∀ k o j, ¬ (k = 0 ∧ o = 43 ∧ 40 ≤ j ∧ j < 40 + 2 * np ∧ j % 2 = 0) → b' k o j = b k o j) := by
  intro d
  induction d with
  | zero =>
    intro k b hd hp hf hh
    have ek : k = np := by omega
    subst ek
    refine ⟨b, ?_, hh, fun _ _ _ _ => rfl⟩
    rw [e_M_hang_3, if_pos ((q_leN (by omega) (by omega)).mpr (Nat.le_refl _))]
  | succ d ih =>
    intro k b hd hp hf hh
    have pl := Pk_lt (np := np) (code := code) (k := k) h0
    have hX := e_M_hang_3 (nI np) x2 (nI k) b
    rw [if_neg (by rw [q_leN (by omega) (by omega)]; omega), q_g (show k < 8 by omega) (by decide), hp k (by omega), g402 (by omega), g402 (by omega), hf _ pl, q_w, nI_1] at hX
    obtain ⟨b', y1, y2, y3⟩ := ih (k + 1) (mx_up b 0 43 (40 + 2 * k) (nI (h (40 + 2 * Pk np code k)))) (by omega) (fun i hi => by rw [q_uo (by decide)]; exact hp i hi) (fun i hi => by rw [q_uo (by decide)]; exact hf i hi) (fun i hi => by
      by_cases e : i = k
      · subst e; rw [q_us]
      · rw [q_uj (by omega)]; exact hh i (by omega))
    exact ⟨b', hX.trans y1, y2, fun k' o j q => by rw [y3 k' o j q, q_up, if_neg (by omega)]⟩
/-- the best is kept -/
theorem m_hang35 {np code : Nat} (h0 : 0 < np) (hn4 : np ≤ 4) {r most : Int32} (hr : ¬ r ≤ most) : ∀ (d k : Nat) (b : mx_S), k + d = np → b 0 39 27 = most → (∀ i, i < np → b 0 49 i = nI (Pk np code i)) → (∀ i, i < k → b 0 50 i = nI (Pk np code i)) → ∃ b', mx_H 162 35 [some (mx_R 0 39), some (mx_I (nI np)), none, some (mx_I r), some (mx_I (nI k))] b = some (none, b') ∧ b' 0 39 27 = r ∧ (∀ i, i < np → b' 0 50 i = nI (Pk np code i)) ∧ (∀ k o j, ¬ o = 50 → ¬ (k = 0 ∧ o = 39 ∧ j = 27) → b' k o j = b k o j) := by
  intro d
  induction d with
  | zero =>
    intro k b hd hm hp hh
    have ek : k = np := by omega
    subst ek
    have hX := e_M_hang_35 (nI k) r (nI k) b
    rw [if_pos ((q_leN (by omega) (by omega)).mpr (Nat.le_refl _)), hm, if_neg hr, q_w] at hX
    exact ⟨_, hX, q_us, fun i hi => by rw [q_uo (by decide)]; exact hh i hi, fun k' o j q1 q2 => by rw [q_up, if_neg q2]⟩
  | succ d ih =>
    intro k b hd hm hp hh
    have hX := e_M_hang_35 (nI np) r (nI k) b
    rw [if_neg (by rw [q_leN (by omega) (by omega)]; omega), hm, if_neg hr, q_g (show k < 8 by omega) (by decide), q_g (show k < 8 by omega) (by decide), q_w, hp k (by omega), nI_1] at hX
    obtain ⟨b', y1, y2, y3, y4⟩ := ih (k + 1) (mx_up b 0 50 k (nI (Pk np code k))) (by omega) (by rw [q_uo (by decide)]; exact hm) (fun i hi => by rw [q_uo (by decide)]; exact hp i hi) (fun i hi => by
      by_cases e : i = k
      · subst e; rw [q_us]
      · rw [q_uj e]; exact hh i (by omega))
    exact ⟨b', hX.trans y1, y2, y3, fun k' o j q1 q2 => by rw [y4 k' o j q1 q2, q_uo q1]⟩
theorem m_hung70 {h : Nat → Nat} {D : Nat → Nat → Nat} {c : Cr} (g : GH h D c) (p2 : 1 ≤ h 2) (h0 : 0 < h 4) (hn4 : h 4 ≤ 4) {n : Nat} (hn : n ≤ 120) {cs : Nat} (hcs : cs ≤ 256) {x2 : Int32} {b0 : mx_S} (me : ME h (mt0 h) (lw0 h) D b0) (dn : b0 0 39 23 = -1) : ∀ (d code : Nat) (most : Int32) (B : Nat → Int32) (b : mx_S), code + d = cs → FrH h (h 4) b → (∀ k o j, ¬ SH (h 4) k o j → b k o j = b0 k o j) → (∀ i, i < h 4 → b 0 43 (41 + 2 * i) = b0 0 43 (41 + 2 * i)) → b 0 39 27 = most → (∀ k, k < h 4 → b 0 50 k = B k) → ∃ b', mx_H 176 70 [some (mx_R 0 39), some (mx_I (nI n)), some (mx_I x2), some (mx_I (nI (h 4))), some (mx_I (nI cs)), some (mx_I (nI code)), none, none] b = mx_H 176 108 [some (mx_R 0 39), none, some (mx_I x2), some (mx_I (nI (h 4))), none, some (mx_I 0), none, none] b' ∧ FrH h (h 4) b' ∧ (∀ k o j, ¬ SH (h 4) k o j → b' k o j = b0 k o j) ∧ (∀ i, i < h 4 → b' 0 43 (41 + 2 * i) = b0 0 43 (41 + 2 * i)) ∧ b' 0 39 27 = (hgs (Fh h D n (h 4)) (h 4) d code most B).1 ∧ (∀ k, k < h 4 → b' 0 50 k = (hgs (Fh h D n (h 4)) (h 4) d code most B).2 k) := by
  have hb := g.hb
  intro d
  induction d with
  | zero =>
    intro code most B b hd hf he ho hm hB
    have ec : code = cs := by omega
    subst ec
    refine ⟨b, ?_, hf, he, ho, hm, hB⟩
    rw [e_M_hung_70, if_pos ((q_leN (by omega) (by omega)).mpr (Nat.le_refl _))]
  | succ d ih =>
    intro code most B b hd hf he ho hm hB
    have hX := e_M_hung_70 (nI n) x2 (nI (h 4)) (nI cs) (nI code) b
    rw [if_neg (by rw [q_leN (by omega) (by omega)]; omega)] at hX
    obtain ⟨b1, y1, y2, y3⟩ := m_hung80 h0 hn4 (show code < 1000 by omega) (x1 := nI n) (x2 := x2) (x4 := nI cs) (x5 := nI code) (h 4) b (Nat.le_refl _)
    rw [Nat.sub_self] at y1
    have hX1 := hX.trans y1
    rw [e_M_hung_80, if_pos (by decide), e_M_isEachOnce] at hX1
    have ec := m_each h0 hn4 (code := code) y2 (h 4) 0 (by omega)
    have ec' : mx_H 175 5 [some (mx_R 0 39), some (mx_I (nI (h 4))), some (mx_I 0), some (mx_I 0)] b1 = some (some (mx_I (if okC (h 4) code then 1 else 0)), b1) := ec
    rw [ec', q_bI, nI_1] at hX1
    have hf1 : FrH h (h 4) b1 := fun i hi => by rw [y3 0 44 _ (by omega)]; exact hf i hi
    have he1 : ∀ k o j, ¬ SH (h 4) k o j → b1 k o j = b0 k o j := fun k o j q => by
      rw [y3 k o j (fun z => q (by unfold SH; omega))]; exact he k o j q
    have ho1 : ∀ i, i < h 4 → b1 0 43 (41 + 2 * i) = b0 0 43 (41 + 2 * i) := fun i hi => by rw [y3 0 43 _ (by omega)]; exact ho i hi
    have hm1 : b1 0 39 27 = most := by rw [y3 0 39 27 (by omega)]; exact hm
    have hB1 : ∀ k, k < h 4 → b1 0 50 k = B k := fun k hk => by rw [y3 0 50 k (by omega)]; exact hB k hk
    unfold hgs
    by_cases ok : okC (h 4) code
    · rw [if_pos ok, if_neg (by decide), e_M_hang] at hX1
      rw [if_pos ok]
      obtain ⟨b2, z1, z2, z3⟩ := m_hang3 (h := h) h0 hn4 (x2 := nI n) (h 4) 0 b1 (by omega) y2 hf1 (fun i hi => by omega)
      have he2 : ∀ k o j, ¬ SH (h 4) k o j → b2 k o j = b0 k o j := fun k o j q => by
        rw [z3 k o j (fun z => q (by unfold SH; omega))]; exact he1 k o j q
      have n2 : ∀ o j, ¬ o = 44 → ¬ (48 ≤ o ∧ o ≤ 50) → ¬ (o = 39 ∧ j = 27) → ¬ (o = 43 ∧ 40 ≤ j ∧ j < 40 + 2 * h 4) → b2 0 o j = b0 0 o j := fun o j q1 q2 q3 q4 => he2 0 o j (by unfold SH; omega)
      have mh : MH 43 (hgH h (h 4) (Pk (h 4) code)) b2 := fun i hi => by
        by_cases q : 40 ≤ i ∧ i < 40 + 2 * h 4 ∧ i % 2 = 0
        · have ei : i = 40 + 2 * ((i - 40) / 2) := by omega
          rw [ei, z2 _ (by omega), hgH_p (by omega)]
        · rw [hgH_o q]
          by_cases q2 : 40 ≤ i ∧ i < 40 + 2 * h 4
          · have ei : i = 41 + 2 * ((i - 41) / 2) := by omega
            have e3 : b2 0 43 i = b0 0 43 i := by
              rw [z3 0 43 i (fun z => q ⟨z.2.2.1, z.2.2.2.1, z.2.2.2.2⟩), ei]
              exact ho1 _ (by omega)
            rw [e3]; exact me.m i hi
          · rw [n2 43 i (by decide) (by omega) (by omega) (by omega)]; exact me.m i hi
      have hbh := hb.hg (np := h 4) rfl (P := Pk (h 4) code) (fun k _ => Pk_lt h0)
      have meh : ME (hgH h (h 4) (Pk (h 4) code)) (mt0 h) (lw0 h) D b2 := by
        refine ⟨mh, fun y z hy hz => ?_, fun gg hg => ?_, fun p hp => ?_⟩
        · rw [n2 47 _ (by decide) (by omega) (by omega) (by omega)]; exact me.f y z hy hz
        · rw [hgH_o (by omega)] at hg
          rw [n2 39 21 (by decide) (by omega) (by omega) (by omega), hgH_o (by omega)]; exact me.l gg hg
        · rw [hgH_o (by omega)] at hp
          rw [n2 39 22 (by decide) (by omega) (by omega) (by omega), hgH_o (by omega)]; exact me.t p hp
      obtain ⟨b3, v1, v2⟩ := s_mday hbh (by rw [hgH_o (by omega)]; exact p2) (g.hD.c hb (hgH_o (by omega)) (hgH_o (by omega)) (fun i q1 q2 => hgH_o (by omega))) hn 0 meh (DN.i (by rw [n2 39 23 (by decide) (by omega) (by omega) (by omega)]; exact dn))
      have v1' : mx_sem 145 [mx_R 0 39, mx_I (nI n), mx_I 0] b2 = some (some (mx_I (Fh h D n (h 4) code)), b3) := v1
      have ns : ∀ o j, ¬ o = 48 → ¬ S458 1 0 o j := fun o j q z => by rcases z with z | z <;> omega
      have z1' : mx_H 162 3 [some (mx_R 0 39), some (mx_I (nI (h 4))), some (mx_I (nI n)), some (mx_I 0), none] b1 = _ := z1
      rw [z1', v1', q_bI] at hX1
      have he3 : ∀ k o j, ¬ SH (h 4) k o j → b3 k o j = b0 k o j := fun k o j q => by
        rw [v2 k o j (fun z => q (by unfold SH; rcases z with z | z <;> omega))]; exact he2 k o j q
      have hf3 : FrH h (h 4) b3 := fun i hi => by rw [v2 0 44 _ (ns _ _ (by decide)), z3 0 44 _ (by omega)]; exact hf1 i hi
      have ho3 : ∀ i, i < h 4 → b3 0 43 (41 + 2 * i) = b0 0 43 (41 + 2 * i) := fun i hi => by rw [v2 0 43 _ (ns _ _ (by decide)), z3 0 43 _ (by omega)]; exact ho1 i hi
      have hm3 : b3 0 39 27 = most := by rw [v2 0 39 27 (ns _ _ (by decide)), z3 0 39 27 (by omega)]; exact hm1
      have hB3 : ∀ k, k < h 4 → b3 0 50 k = B k := fun k hk => by rw [v2 0 50 k (ns _ _ (by decide)), z3 0 50 k (by omega)]; exact hB1 k hk
      have h43 : ∀ i, i < h 4 → b3 0 49 i = nI (Pk (h 4) code i) := fun i hi => by rw [v2 0 49 i (ns _ _ (by decide)), z3 0 49 i (by omega)]; exact y2 i hi
      by_cases q : Fh h D n (h 4) code ≤ most
      · rw [if_pos q]
        have e35 := e_M_hang_35 (nI (h 4)) (Fh h D n (h 4) code) 0 b3
        rw [if_neg (show ¬ nI (h 4) ≤ 0 by rw [q_lit, q_leN (by omega) (by decide)]; show ¬ h 4 ≤ 0; omega), hm3, if_pos q, if_pos q, q_w, q_ui hm3] at e35
        rw [e35, q_bV] at hX1
        obtain ⟨b', w1, w2, w3, w4, w5, w6⟩ := ih (code + 1) most B b3 (by omega) hf3 he3 ho3 hm3 hB3
        exact ⟨b', hX1.trans w1, w2, w3, w4, w5, w6⟩
      · rw [if_neg q]
        obtain ⟨b4, u1, u2, u3, u4⟩ := m_hang35 h0 hn4 q (h 4) 0 b3 (by omega) hm3 h43 (fun i hi => by omega)
        have u1' : mx_H 162 35 [some (mx_R 0 39), some (mx_I (nI (h 4))), none, some (mx_I (Fh h D n (h 4) code)), some (mx_I 0)] b3 = some (none, b4) := u1
        rw [u1', q_bV] at hX1
        obtain ⟨b', w1, w2, w3, w4, w5, w6⟩ := ih (code + 1) (Fh h D n (h 4) code) (fun k => nI (Pk (h 4) code k)) b4 (by omega) (fun i hi => by rw [u4 0 44 _ (by decide) (by omega)]; exact hf3 i hi) (fun k o j z => by rw [u4 k o j (fun w => z (by unfold SH; omega)) (fun w => z (by unfold SH; omega))]; exact he3 k o j z) (fun i hi => by rw [u4 0 43 _ (by decide) (by omega)]; exact ho3 i hi) u2 u3
        exact ⟨b', hX1.trans w1, w2, w3, w4, w5, w6⟩
    · rw [if_neg ok, if_pos rfl] at hX1
      rw [if_neg ok]
      obtain ⟨b', w1, w2, w3, w4, w5, w6⟩ := ih (code + 1) most B b1 (by omega) hf1 he1 ho1 hm1 hB1
      exact ⟨b', hX1.trans w1, w2, w3, w4, w5, w6⟩
/-- the pictures hang as before -/
theorem m_hung108 {h : Nat → Nat} {np : Nat} (hn4 : np ≤ 4) {x2 : Int32} : ∀ (d k : Nat) (b : mx_S), k + d = np → FrH h np b → (∀ i, i < k → b 0 43 (40 + 2 * i) = nI (h (40 + 2 * i))) → ∃ b', mx_H 176 108 [some (mx_R 0 39), none, some (mx_I x2), some (mx_I (nI np)), none, some (mx_I (nI k)), none, none] b = (if 0 ≤ x2 then (if nI np ≤ x2 then (some (some (mx_I (-1000000)), b')) else (mx_g none x2 8 fun j1 => some (some (mx_I (b' 0 50 j1)), b'))) else (some (some (mx_I (b' 0 39 27)), b'))) ∧ (∀ i, i < np → b' 0 43 (40 + 2 * i) = nI (h (40 + 2 * i))) ∧ (∀ k o j, ¬ (k = 0 ∧ o = 43 ∧ 40 ≤ j ∧ j < 40 + 2 * np ∧ j % 2 = 0) → b' k o j = b k o j) := by
  intro d
  induction d with
  | zero =>
    intro k b hd hf hh
    have ek : k = np := by omega
    subst ek
    refine ⟨b, ?_, hh, fun _ _ _ _ => rfl⟩
    rw [e_M_hung_108, if_pos ((q_leN (by omega) (by omega)).mpr (Nat.le_refl _))]
  | succ d ih =>
    intro k b hd hf hh
    have hX := e_M_hung_108 x2 (nI np) (nI k) b
    rw [if_neg (by rw [q_leN (by omega) (by omega)]; omega), g402 (by omega), g402 (by omega), q_w, hf k (by omega), nI_1] at hX
    obtain ⟨b', y1, y2, y3⟩ := ih (k + 1) (mx_up b 0 43 (40 + 2 * k) (nI (h (40 + 2 * k)))) (by omega) (fun i hi => by rw [q_uo (by decide)]; exact hf i hi) (fun i hi => by
      by_cases e : i = k
      · subst e; rw [q_us]
      · rw [q_uj (by omega)]; exact hh i (by omega))
    exact ⟨b', hX.trans y1, y2, fun k' o j q => by rw [y3 k' o j q, q_up, if_neg (by omega)]⟩
theorem iv_hung {a b : mx_S} (x : INV a b) (x1 x2 : Int32) : Alk INV 93 176 [mx_I x1, mx_I x2] a b := by
  obtain ⟨h, D, c, g, xh, mh⟩ := x.l
  have r4 := g.hb.r4
  have mh0 := mh.t0
  have x0 := x.t0
  have hX := e_X_hung x1 x2 a
  have hM := e_M_hung x1 x2 b
  rw [q_w, mh0.t] at hM
  by_cases h0 : h 2 = 0
  · rw [x_nh0 xh.p h0, q_bI, if_neg (by decide)] at hX
    rw [if_pos h0, if_pos rfl] at hM
    exact ⟨_, _, _, hX, hM, x0⟩
  rw [x_nh1 g.hb xh.p h0, q_bI, if_pos rfl] at hX
  rw [if_neg h0, if_neg (by decide)] at hM
  by_cases q : x1.toInt < 1 ∨ 120 < x1.toInt
  · rw [(day0 q a b).1, q_bI, if_neg (by decide)] at hX
    rw [(day0 q a _).2, q_bI, if_pos rfl] at hM
    exact ⟨_, _, _, hX, hM, x0⟩
  obtain ⟨d1, d2, n, hn, rfl⟩ := day1 q
  obtain ⟨p2, p4, p6⟩ := g.n0 h0
  rw [d1, q_bI, if_pos rfl] at hX
  rw [d2, q_bI, if_neg (by decide)] at hM
  by_cases qp : -1 ≤ x2
  · rw [if_pos qp, xh.p.f8] at hX
    rw [if_pos qp, q_gl (by decide) (by decide), mh0.m 4 (by decide)] at hM
    have e1 : (1 : Int32).toInt = 1 := rfl
    have e4 : (4 : Int32).toInt = 4 := rfl
    have hI : (nI (h 4)).toInt = (h 4 : Int) := q_toI (by omega)
    by_cases q4 : h 4 ≤ 4
    · rw [s_within2 (nI (h 4)) 1 4 (by omega) (by omega), q_bI, if_neg (by decide)] at hX
      rw [if_pos (by rw [q_lit, q_leN (by omega) (by decide)]; exact q4), show mx_I 0 = mx_I (nI 0) from rfl] at hM
      obtain ⟨b1, y1, y2, y3, y4⟩ := m_hung29 q4 rfl (x1 := nI n) (x2 := x2) (h 4) 0 (mx_up b 0 39 0 0) (by omega) mh0.m (fun i hi => by omega)
      have me := g.me mh0.m mh0.f x0.e.1 x0.e.2.1
      obtain ⟨b2, z1, z2, z3, z4, z5, z6⟩ := m_hung70 g p2 p4 q4 hn (ok_some p4 q4).1 (x2 := x2) me x0.e.2.2 (h 4 ^ h 4) 0 (-1) (fun k => b1 0 50 k) b1 (by omega) y2 (fun k o j q => y4 k o j (fun z => q (by unfold SH; omega))) (fun i hi => y4 0 43 _ (by omega)) y3 (fun _ _ => rfl)
      obtain ⟨b3, w1, w2, w3⟩ := m_hung108 q4 (x2 := x2) (h 4) 0 b2 (by omega) z2 (fun i hi => by omega)
      have hM2 := hM.trans (y1.trans ((m_hung58 q4 (h 4) 0 (by omega)).trans (z1.trans w1)))
      have kB : kq JM (mx_up b 0 39 0 0) b3 := fun k o j q => by
        by_cases e : k = 0 ∧ o = 43 ∧ 40 ≤ j ∧ j < 40 + 2 * h 4
        · by_cases ev : j % 2 = 0
          · have ej : j = 40 + 2 * ((j - 40) / 2) := by omega
            rw [e.1, e.2.1, ej, w2 _ (by omega)]
            exact (mh0.m _ (by omega)).symm
          · have ej : j = 41 + 2 * ((j - 41) / 2) := by omega
            rw [w3 k o j (by omega), e.1, e.2.1, ej]
            exact z4 _ (by omega)
        · rw [w3 k o j (by omega), z3 k o j (fun z => by unfold SH at z; unfold JM at q; omega)]
      by_cases qx : x2 < nI (h 4)
      · obtain ⟨B, a1, u1, u2, u3⟩ := x_hangBest g p2 p6 p4 q4 hn xh
        have eB := hgs_B (F := Fh h D n (h 4)) (np := h 4) (fun cc => seen_pos (g.hb.hg (np := h 4) rfl (P := Pk (h 4) cc) (fun k _ => Pk_lt p4)) hn) (h 4 ^ h 4) 0 B (fun k => b1 0 50 k) (ok_some p4 q4).2
        rw [eB] at u1 u2
        rw [if_pos qx, u1, q_bI] at hX
        by_cases qm : x2 = -1
        · rw [if_pos qm] at hX
          rw [if_neg (by rw [qm]; decide), w3 0 39 27 (by omega), z5] at hM2
          exact ⟨_, _, _, hX, hM2, x0.j u3 kB⟩
        · have p0 : 0 ≤ x2 := by
            rw [q_le, show (0 : Int32).toInt = 0 from rfl]
            rw [q_le, show (-1 : Int32).toInt = -1 from rfl] at qp
            have : x2.toInt ≠ -1 := fun z => qm ((q_eq _ _).mpr z)
            omega
          obtain ⟨k, hk, rfl⟩ : ∃ k : Nat, k < h 4 ∧ x2 = nI k := by
            rw [q_le, show (0 : Int32).toInt = 0 from rfl] at p0
            rw [q_lt, hI] at qx
            exact ⟨x2.toInt.toNat, by omega, q_of (by omega)⟩
          rw [if_neg qm, q_g (show k < 4 by omega) (by decide), u2 k hk] at hX
          rw [if_pos p0, if_neg (Int32.not_le.mpr qx), q_g (show k < 8 by omega) (by decide), w3 0 50 k (by omega), z6 k hk] at hM2
          exact ⟨_, _, _, hX, hM2, x0.j u3 kB⟩
      · rw [if_neg qx] at hX
        have p0 : 0 ≤ x2 := by
          rw [q_le, show (0 : Int32).toInt = 0 from rfl]
          have := Int32.not_lt.mp qx
          rw [q_le, hI] at this
          omega
        rw [if_pos p0, if_pos (Int32.not_lt.mp qx)] at hM2
        exact ⟨_, _, _, hX, hM2, x0.j kq_rf kB⟩
    · rw [s_within1 (nI (h 4)) 1 4 (by omega), q_bI, if_pos rfl] at hX
      rw [if_neg (by rw [q_lit, q_leN (by omega) (by decide)]; exact q4)] at hM
      exact ⟨_, _, _, hX, hM, x0⟩
  · rw [if_neg qp] at hX hM
    exact ⟨_, _, _, hX, hM, x0⟩
