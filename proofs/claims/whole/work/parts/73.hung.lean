/-! ===== how much one sees: no more than 600 a minute ===== -/
def SBu (h : Nat → Nat) (m u : Nat) (c : Cr) : Prop := ∀ v, v < h 6 → ∃ s, s ≤ 600 * m + (if v < u then 600 else 0) ∧ c (14 * v + 2) = nI s
theorem waitC_2 (c : Cr) (v aim : Nat) : waitC c v aim (14 * v + 2) = c (14 * v + 2) := by
  unfold waitC
  split
  · split
    · rw [fup_o (by omega), fup_o (by omega)]
    · rw [fup_o (by omega), fup_o (by omega), fup_o (by omega)]
  · rw [fup_o (by omega), fup_o (by omega)]
theorem entC_2 (h : Nat → Nat) (c : Cr) (v r aim : Nat) : entC h c v r aim (14 * v + 2) = c (14 * v + 2) := by
  unfold entC
  split
  · exact fup_o (by omega)
  · exact waitC_2 c v aim
theorem lookC_2 (h mt : Nat → Nat) (c hd : Cr) (v p : Nat) : lookC h mt c hd v p (14 * v + 2) = c (14 * v + 2) + (4 : Int32) * nI (h (41 + 2 * p)) ∨ lookC h mt c hd v p (14 * v + 2) = c (14 * v + 2) + (10 : Int32) * nI (h (41 + 2 * p)) := by
  have key : lookC1 h c hd v p (14 * v + 2) = c (14 * v + 2) + (4 : Int32) * nI (h (41 + 2 * p)) ∨ lookC1 h c hd v p (14 * v + 2) = c (14 * v + 2) + (10 : Int32) * nI (h (41 + 2 * p)) := by
    unfold lookC1
    split
    · left; rw [fup_o (by omega), fup_s]
    · right; rw [fup_o (by omega), fup_s]
  unfold lookC
  split
  · rw [fup_o (by omega)]; exact key
  · exact key
theorem SBu.go {h mt lw : Nat → Nat} (hb : HB h) {D : Nat → Nat → Nat} {m u : Nat} {c : Cr} (sb : SBu h m u c) (hd : Cr) (hu : u < h 6) : SBu h m (u + 1) (goC h mt lw D c hd u).1 := by
  intro v hv
  obtain ⟨s, s1, s2⟩ := sb v hv
  by_cases e : v = u
  · subst e
    rw [if_neg (by omega)] at s1
    rw [if_pos (by omega)]
    have e2 : fup c (14 * v + 5) 0 (14 * v + 2) = c (14 * v + 2) := fup_o (by omega)
    have keep : ∀ x : Int32, x = c (14 * v + 2) → ∃ s, s ≤ 600 * m + 600 ∧ x = nI s := fun x hx => ⟨s, by omega, hx.trans s2⟩
    unfold goC
    split
    · split
      · exact keep _ e2
      · exact keep _ ((entC_2 h _ v 0 1000).trans e2)
    · split
      · exact keep _ e2
      · split
        · exact keep _ ((fup_o (by omega)).trans e2)
        · rename_i a0
          obtain ⟨a1, -⟩ := aimF_p a0
          have pc := (hb.pc _ a1).2.2
          split
          · rcases lookC_2 h mt (fup c (14 * v + 5) 0) hd v (aimF h D (lw (gO h v)) (rOf (c (14 * v))) (c (14 * v + 3))) with q | q
            · refine ⟨s + 4 * h (41 + 2 * aimF h D (lw (gO h v)) (rOf (c (14 * v))) (c (14 * v + 3))), by omega, ?_⟩
              refine q.trans ?_
              rw [e2, s2, q_lit, q_mul, q_add]
            · refine ⟨s + 10 * h (41 + 2 * aimF h D (lw (gO h v)) (rOf (c (14 * v))) (c (14 * v + 3))), by omega, ?_⟩
              refine q.trans ?_
              rw [e2, s2, q_lit, q_mul, q_add]
          · exact keep _ ((entC_2 h _ v _ _).trans e2)
  · refine ⟨s, ?_, ?_⟩
    · split at s1 <;> split <;> omega
    · rw [goC_o hb c hd (by omega)]; exact s2
theorem SBu.mn {h mt lw : Nat → Nat} (hb : HB h) {D : Nat → Nat → Nat} {m : Nat} {c : Cr} (sb : SBu h m 0 c) : ∀ u, u ≤ h 6 → SBu h m u (mnS h mt lw D c u).1
  | 0, _ => sb
  | u + 1, hu => SBu.go hb (SBu.mn hb sb u (by omega)) _ (by omega)
theorem SBu.min {h mt lw : Nat → Nat} (hb : HB h) {D : Nat → Nat → Nat} {m : Nat} {c : Cr} (sb : SBu h m 0 c) : SBu h (m + 1) 0 (minC h mt lw D c) := by
  have h6 := hb.r6
  intro v hv
  obtain ⟨s, s1, s2⟩ := SBu.mn (mt := mt) (lw := lw) (D := D) hb sb (h 6) (Nat.le_refl _) v hv
  rw [if_pos hv] at s1
  refine ⟨s, by rw [if_neg (by omega)]; omega, ?_⟩
  unfold minC
  rw [fup_o (by omega)]; exact s2
theorem SBu.it {h mt lw : Nat → Nat} (hb : HB h) {D : Nat → Nat → Nat} : ∀ (n m : Nat) (c : Cr), SBu h m 0 c → SBu h (m + n) 0 (itC h mt lw D n c)
  | 0, _, _, sb => sb
  | n + 1, m, c, sb => by
    have := SBu.it (mt := mt) (lw := lw) (D := D) hb n (m + 1) (minC h mt lw D c) (sb.min hb)
    rw [show m + 1 + n = m + (n + 1) by omega] at this
    exact this
theorem sumS_b {c : Cr} {B : Nat} : ∀ n, (∀ v, v < n → ∃ s, s ≤ B ∧ c (14 * v + 2) = nI s) → ∃ S, S ≤ n * B ∧ sumS c n = nI S
  | 0, _ => ⟨0, by omega, rfl⟩
  | n + 1, h => by
    obtain ⟨S, h1, h2⟩ := sumS_b n (fun v hv => h v (by omega))
    obtain ⟨s, h3, h4⟩ := h n (by omega)
    refine ⟨S + s, by rw [Nat.succ_mul]; omega, ?_⟩
    unfold sumS
    rw [h2, h4, q_add]
/-- what all see in a day is no number below 0 -/
theorem seen_pos {h mt lw : Nat → Nat} (hb : HB h) {D : Nat → Nat → Nat} {n : Nat} (hn : n ≤ 120) : ¬ seenV 0 (itC h mt lw D n (c0 h 0 (h 6))) (h 6) ≤ -1 := by
  have h6 := hb.r6
  have sb0 : SBu h 0 0 (c0 h 0 (h 6)) := fun v hv => ⟨0, by omega, c0_at h 0 (h 6) v 2 hv (by decide)⟩
  have sb := SBu.it (mt := mt) (lw := lw) (D := D) hb n 0 _ sb0
  obtain ⟨S, s1, s2⟩ := sumS_b (c := itC h mt lw D n (c0 h 0 (h 6))) (B := 72000) (h 6) (fun v hv => by
    obtain ⟨s, q1, q2⟩ := sb v hv
    rw [if_neg (by omega)] at q1
    exact ⟨s, by omega, q2⟩)
  have s3 : S ≤ 30 * 72000 := Nat.le_trans s1 (Nat.mul_le_mul_right _ h6)
  unfold seenV
  rw [if_pos rfl, s2, q_le, q_toI (by omega), show (-1 : Int32).toInt = -1 from rfl]
  omega
/-! ===== hangings ===== -/
def lfR (np code : Nat) : Nat → Nat
  | 0 => code
  | t + 1 => lfR np code t / np
def Pk (np code k : Nat) : Nat := lfR np code (np - 1 - k) % np
def orU (P : Nat → Nat) : Nat → Int32
  | 0 => 0
  | k + 1 => orU P k ||| bitI (P k)
abbrev okC (np code : Nat) : Prop := orU (Pk np code) np = ((1 : Int32) <<< (nI np &&& 31)) - 1
def hgH (h : Nat → Nat) (np : Nat) (P : Nat → Nat) : Nat → Nat := fun i => if 40 ≤ i ∧ i < 40 + 2 * np ∧ i % 2 = 0 then h (40 + 2 * P ((i - 40) / 2)) else h i
theorem hgH_p {h : Nat → Nat} {np : Nat} {P : Nat → Nat} {k : Nat} (hk : k < np) : hgH h np P (40 + 2 * k) = h (40 + 2 * P k) := by
  unfold hgH
  rw [if_pos (by omega), show (40 + 2 * k - 40) / 2 = k by omega]
theorem hgH_o {h : Nat → Nat} {np : Nat} {P : Nat → Nat} {i : Nat} (hi : ¬ (40 ≤ i ∧ i < 40 + 2 * np ∧ i % 2 = 0)) : hgH h np P i = h i := if_neg hi
theorem lfR_lt {np code : Nat} (hc : code < 1000) : ∀ t, lfR np code t < 1000
  | 0 => hc
  | t + 1 => Nat.lt_of_le_of_lt (Nat.div_le_self _ _) (lfR_lt hc t)
theorem HB.hg {h : Nat → Nat} (hb : HB h) {np : Nat} (hn : np = h 4) {P : Nat → Nat} (hP : ∀ k, k < np → P k < np) : HB (hgH h np P) := by
  have r2 := hb.r2
  have r3 := hb.r3
  have r4 := hb.r4
  refine ⟨?_, ?_, ?_, ?_, ?_, ?_, ?_, fun i hi => ?_, fun i hi => ?_, fun i hi => ?_, fun i hi => ?_, ?_⟩
  · rw [hgH_o (by omega)]; exact hb.r0
  · rw [hgH_o (by omega)]; exact hb.r1
  · rw [hgH_o (by omega)]; exact hb.r2
  · rw [hgH_o (by omega)]; exact hb.r3
  · rw [hgH_o (by omega)]; exact hb.r4
  · rw [hgH_o (by omega)]; exact hb.r5
  · rw [hgH_o (by omega)]; exact hb.r6
  · rw [hgH_o (by omega)] at hi
    rw [hgH_o (by omega)]; exact hb.rm i hi
  · rw [hgH_o (by omega)] at hi
    rw [hgH_o (by omega), hgH_o (by omega), hgH_o (by omega), hgH_o (by omega)]; exact hb.dr i hi
  · rw [hgH_o (by omega)] at hi
    rw [hgH_p (by omega), hgH_o (show ¬ (40 ≤ 2 ∧ 2 < 40 + 2 * np ∧ 2 % 2 = 0) by omega), hgH_o (show ¬ (40 ≤ 41 + 2 * i ∧ 41 + 2 * i < 40 + 2 * np ∧ (41 + 2 * i) % 2 = 0) by omega)]
    exact ⟨(hb.pc (P i) (by have := hP i (by omega); omega)).1, (hb.pc i hi).2⟩
  · rw [hgH_o (by omega)] at hi
    rw [hgH_o (by omega), hgH_o (by omega), hgH_o (by omega), hgH_o (by omega)]; exact hb.gr i hi
  · rw [hgH_o (by omega), hgH_o (by omega), sm_c (h := h) (h 5) (fun g _ => hgH_o (by omega))]; exact hb.su
theorem hg_mt {h : Nat → Nat} {np : Nat} {P : Nat → Nat} : mt0 (hgH h np P) = mt0 h := by
  funext p
  unfold mt0
  rw [hgH_o (by omega)]
theorem hg_lw {h : Nat → Nat} (np : Nat) (hn : np ≤ 8) {P : Nat → Nat} : lw0 (hgH h np P) = lw0 h := by
  funext g
  unfold lw0
  rw [hgH_o (by omega)]
theorem Pk_lt {np code k : Nat} (h0 : 0 < np) : Pk np code k < np := Nat.mod_lt _ h0
theorem lf_s {np code k : Nat} (hk : k < np) : lfR np code (np - (k + 1)) / np = lfR np code (np - k) := by
  rw [show np - k = np - (k + 1) + 1 by omega]; rfl
theorem Pk_s {np code k : Nat} (hk : k < np) : lfR np code (np - (k + 1)) % np = Pk np code k := by
  unfold Pk
  rw [show np - 1 - k = np - (k + 1) by omega]
/-- X hangs by a code -/
theorem x_hangBy {h mt lw : Nat → Nat} (hb : HB h) {np code : Nat} (h0 : 0 < np) (hn : np ≤ 4) (hn4 : np = h 4) (hc : code < 1000) : ∀ (k : Nat) (acc : Int32) (a : mx_S), k ≤ np → (acc ||| orU (Pk np code) k = orU (Pk np code) np) → XP 0 h mt lw a → ∃ a', mx_H 90 9 [some (mx_R 0 28), none, some (mx_I (nI np)), some (mx_I (nI (lfR np code (np - k)))), some (mx_I acc), some (mx_I (nI k - 1)), none] a = some (some (mx_I (if okC np code then 1 else 0)), a') ∧ (∀ i, i < k → a' 0 37 i = nI (Pk np code i) ∧ a' 1 6 i = nI (h (40 + 2 * Pk np code i))) ∧ (∀ k' o j, ¬ (k' = 0 ∧ o = 37 ∧ j < k) → ¬ (k' = 1 ∧ o = 6 ∧ j < k) → a' k' o j = a k' o j) := by
  intro k
  induction k with
  | zero =>
    intro acc a hk hacc hx
    have hX := e_X_hangBy_9 (nI np) (nI (lfR np code (np - 0))) acc (nI 0 - 1) a
    have ea : acc = orU (Pk np code) np := by
      rw [← hacc]
      exact (Int32.or_zero).symm
    rw [if_pos (by decide)] at hX
    refine ⟨a, ?_, fun i hi => by omega, fun _ _ _ _ _ => rfl⟩
    rw [hX]
    unfold okC
    rw [ea]
    split <;> rfl
  | succ k ih =>
    intro acc a hk hacc hx
    have hX := e_X_hangBy_9 (nI np) (nI (lfR np code (np - (k + 1)))) acc (nI (k + 1) - 1) a
    have ll := lfR_lt (np := np) hc (np - (k + 1))
    have pl := Pk_lt (np := np) (code := code) (k := k) h0
    rw [nI_pred, if_neg (q_lt0 (by omega)), q_d h0 (by omega), q_d h0 (by omega), q_g (show k < 4 by omega) (by decide), pk_rem (by omega) h0 (by omega), Pk_s (by omega), q_w, q_g (show Pk np code k < 8 by omega) (by decide), q_g (show k < 8 by omega) (by decide), q_uo (by decide), (hx.pc (Pk np code k) (by omega)).1, q_w, pk_div (by omega) h0 (by omega), lf_s (by omega), show nI k + (-1) = nI k - 1 from (Int32.sub_eq_add_neg _ _).symm, show (1 : Int32) <<< (nI (Pk np code k) &&& 31) = bitI (Pk np code k) from rfl] at hX
    have hx1 : XP 0 h mt lw (mx_up (mx_up a 0 37 k (nI (Pk np code k))) 1 6 k (nI (h (40 + 2 * Pk np code k)))) := hx.k (fun o j q1 q2 => by rw [q_uk (by decide), q_uo (by omega)])
    obtain ⟨a', y1, y2, y3⟩ := ih (acc ||| bitI (Pk np code k)) _ (by omega) (by
      rw [← hacc]
      show acc ||| bitI (Pk np code k) ||| orU (Pk np code) k = acc ||| (orU (Pk np code) k ||| bitI (Pk np code k))
      rw [Int32.or_assoc, Int32.or_comm (bitI (Pk np code k))]) hx1
    refine ⟨a', by rw [nI_pred]; exact hX.trans y1, fun i hi => ?_, fun k' o j q1 q2 => ?_⟩
    · by_cases e : i = k
      · subst e
        rw [y3 0 37 i (by omega) (by omega), y3 1 6 i (by omega) (by omega), q_uo (by decide), q_us, q_us]
        exact ⟨rfl, rfl⟩
      · exact y2 i (by omega)
    · rw [y3 k' o j (by omega) (by omega), q_up, if_neg (by omega), q_up, if_neg (by omega)]
