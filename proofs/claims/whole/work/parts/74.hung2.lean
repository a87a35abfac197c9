/-! ===== hangings: X ===== -/
def Fh (h : Nat → Nat) (D : Nat → Nat → Nat) (n np code : Nat) : Int32 := seenV 0 (itC (hgH h np (Pk np code)) (mt0 h) (lw0 h) D n (c0 (hgH h np (Pk np code)) 0 (hgH h np (Pk np code) 6))) (hgH h np (Pk np code) 6)
def hgs (F : Nat → Int32) (np : Nat) : Nat → Nat → Int32 → (Nat → Int32) → Int32 × (Nat → Int32)
  | 0, _, most, B => (most, B)
  | d + 1, code, most, B => if okC np code then (if F code ≤ most then hgs F np d (code + 1) most B else hgs F np d (code + 1) (F code) (fun k => nI (Pk np code k))) else hgs F np d (code + 1) most B
theorem hgs_B {F : Nat → Int32} {np : Nat} (hF : ∀ c, ¬ F c ≤ -1) : ∀ (d code : Nat) (B B' : Nat → Int32), (∃ c, code ≤ c ∧ c < code + d ∧ okC np c) → hgs F np d code (-1) B = hgs F np d code (-1) B'
  | 0, code, B, B', ⟨c, h1, h2, _⟩ => by omega
  | d + 1, code, B, B', ⟨c, h1, h2, h3⟩ => by
    unfold hgs
    by_cases q : okC np code
    · rw [if_pos q, if_pos q, if_neg (hF code), if_neg (hF code)]
    · rw [if_neg q, if_neg q]
      have : c ≠ code := fun e => q (e ▸ h3)
      exact hgs_B hF d (code + 1) B B' ⟨c, by omega, by omega, h3⟩
theorem ok_some {np : Nat} (h0 : 0 < np) (hn : np ≤ 4) : np ^ np ≤ 256 ∧ ∃ c, 0 ≤ c ∧ c < 0 + np ^ np ∧ okC np c := by
  have : np = 1 ∨ np = 2 ∨ np = 3 ∨ np = 4 := by omega
  rcases this with rfl | rfl | rfl | rfl
  · exact ⟨by decide, 0, by decide, by decide, by decide +kernel⟩
  · exact ⟨by decide, 1, by decide, by decide, by decide +kernel⟩
  · exact ⟨by decide, 5, by decide, by decide, by decide +kernel⟩
  · exact ⟨by decide, 27, by decide, by decide, by decide +kernel⟩
/-- X's trial house, but for where the pictures hang -/
def XQ (h : Nat → Nat) (a : mx_S) : Prop := ∀ P : Nat → Nat, (∀ k, k < h 4 → a 1 6 k = nI (h (40 + 2 * P k))) → XP 1 (hgH h (h 4) P) (mt0 h) (lw0 h) a
theorem XP.xq {h : Nat → Nat} (hb : HB h) {a : mx_S} (x : XP 1 h (mt0 h) (lw0 h) a) {a' : mx_S} (e : ∀ o j, 1 ≤ o → o ≤ 12 → o ≠ 6 → a' 1 o j = a 1 o j) : XQ h a' := by
  intro P hP
  have r2 := hb.r2
  have r3 := hb.r3
  have r4 := hb.r4
  refine ⟨?_, ?_, ?_, ?_, ?_, ?_, ?_, fun i hi => ?_, fun i hi => ?_, fun i hi => ?_, fun i hi => ?_⟩
  · rw [hgH_o (by omega), e 1 _ (by omega) (by omega) (by omega)]; exact x.f0
  · rw [hgH_o (by omega), e 1 _ (by omega) (by omega) (by omega)]; exact x.f1
  · rw [hgH_o (by omega), e 1 _ (by omega) (by omega) (by omega)]; exact x.f2
  · rw [hgH_o (by omega), e 1 _ (by omega) (by omega) (by omega)]; exact x.f4
  · rw [hgH_o (by omega), e 1 _ (by omega) (by omega) (by omega)]; exact x.f8
  · rw [hgH_o (by omega), e 1 _ (by omega) (by omega) (by omega)]; exact x.f12
  · rw [hgH_o (by omega), e 1 _ (by omega) (by omega) (by omega)]; exact x.f17
  · rw [hgH_o (by omega)] at hi
    rw [hgH_o (by omega), e 2 _ (by omega) (by omega) (by omega)]; exact x.rm i hi
  · rw [hgH_o (by omega)] at hi
    rw [hgH_o (by omega), hgH_o (by omega), hgH_o (by omega), e 3 _ (by omega) (by omega) (by omega), e 4 _ (by omega) (by omega) (by omega), e 5 _ (by omega) (by omega) (by omega)]; exact x.dr i hi
  · rw [hgH_o (by omega)] at hi
    rw [hgH_p hi, hgH_o (by omega), e 7 _ (by omega) (by omega) (by omega), e 8 _ (by omega) (by omega) (by omega)]
    exact ⟨hP i hi, (x.pc i hi).2⟩
  · rw [hgH_o (by omega)] at hi
    rw [hgH_o (by omega), hgH_o (by omega), hgH_o (by omega), e 9 _ (by omega) (by omega) (by omega), e 10 _ (by omega) (by omega) (by omega), e 11 _ (by omega) (by omega) (by omega), e 12 _ (by omega) (by omega) (by omega)]; exact x.gr i hi
theorem x_hang24 {h : Nat → Nat} {D : Nat → Nat → Nat} {c : Cr} (g : GH h D c) (p2 : 1 ≤ h 2) (p6 : 1 ≤ h 6) (h0 : 0 < h 4) (hn4 : h 4 ≤ 4) {n : Nat} (hn : n ≤ 120) {cs : Nat} (hcs : cs ≤ 256) {a0 : mx_S} (x0 : XP 0 h (mt0 h) (lw0 h) a0) (x1 : XP 1 h (mt0 h) (lw0 h) a0) (w1 : XW 1 (h 2) D a0) : ∀ (d code : Nat) (most : Int32) (B : Nat → Int32) (a : mx_S), code + d = cs → (∀ k o j, ¬ SXb 1 k o j → ¬ (k = 1 ∧ o = 6) → ¬ o = 37 → ¬ o = 38 → a k o j = a0 k o j) → (∀ k, k < h 4 → a 0 38 k = B k) → ∃ a', mx_H 91 24 [some (mx_R 0 28), some (mx_I (nI n)), some (mx_I (nI (h 4))), some (mx_I (nI cs)), some (mx_I most), some (mx_I (nI code)), none] a = some (some (mx_I (hgs (Fh h D n (h 4)) (h 4) d code most B).1), a') ∧ (∀ k, k < h 4 → a' 0 38 k = (hgs (Fh h D n (h 4)) (h 4) d code most B).2 k) ∧ (∀ k o j, ¬ SXb 1 k o j → ¬ (k = 1 ∧ o = 6) → ¬ o = 37 → ¬ o = 38 → a' k o j = a0 k o j) := by
  have hb := g.hb
  intro d
  induction d with
  | zero =>
    intro code most B a hd he hB
    have ec : code = cs := by omega
    subst ec
    refine ⟨a, ?_, hB, he⟩
    rw [e_X_hangBest_24, if_pos ((q_leN (by omega) (by omega)).mpr (Nat.le_refl _))]; rfl
  | succ d ih =>
    intro code most B a hd he hB
    have hX := e_X_hangBest_24 (nI n) (nI (h 4)) (nI cs) most (nI code) a
    have nsx : ∀ o j, 1 ≤ o → o ≤ 15 → ¬ SXb 1 1 o j := fun o j q1 q2 q => by have := q.2; omega
    have ns0 : ∀ o j, ¬ SXb 1 0 o j := fun o j q => by have := q.1; omega
    have xa : XP 0 h (mt0 h) (lw0 h) a := x0.k (fun o j q1 q2 => he 0 o j (ns0 o j) (by omega) (by omega) (by omega))
    obtain ⟨a1, y1, y2, y3⟩ := x_hangBy hb (code := code) h0 hn4 rfl (by omega) (h 4) 0 a (Nat.le_refl _) (Int32.zero_or) xa
    rw [Nat.sub_self] at y1
    have y1' : mx_sem 90 [mx_R 0 28, mx_I (nI code), mx_I (nI (h 4))] a = some (some (mx_I (if okC (h 4) code then 1 else 0)), a1) := (e_X_hangBy (nI code) (nI (h 4)) a).trans y1
    have he1 : ∀ k o j, ¬ SXb 1 k o j → ¬ (k = 1 ∧ o = 6) → ¬ o = 37 → ¬ o = 38 → a1 k o j = a0 k o j := fun k o j q1 q2 q3 q4 => by rw [y3 k o j (by omega) (by omega)]; exact he k o j q1 q2 q3 q4
    have hB1 : ∀ k, k < h 4 → a1 0 38 k = B k := fun k hk => by rw [y3 0 38 k (by omega) (by omega)]; exact hB k hk
    rw [if_neg (by rw [q_leN (by omega) (by omega)]; omega), y1', q_bI, nI_1] at hX
    unfold hgs
    by_cases ok : okC (h 4) code
    · rw [if_pos ok, if_neg (by decide)] at hX
      rw [if_pos ok]
      have hxh : XP 1 (hgH h (h 4) (Pk (h 4) code)) (mt0 h) (lw0 h) a1 := x1.xq hb (fun o j q1 q2 q3 => he1 1 o j (nsx o j q1 (by omega)) (by omega) (by omega) (by omega)) (Pk (h 4) code) (fun k hk => (y2 k hk).2)
      have hwh : XW 1 (h 2) D a1 := w1.k (fun o j q1 q2 => he1 1 o j (nsx o j (by omega) q2) (by omega) (by omega) (by omega))
      have hbh := hb.hg (np := h 4) rfl (P := Pk (h 4) code) (fun k _ => Pk_lt h0)
      obtain ⟨a2, u1, u2⟩ := s_xday hbh (by rw [hgH_o (by omega)]; exact p2) (by rw [hgH_o (by omega)]; exact p6) (g.hD.c hb (hgH_o (by omega)) (hgH_o (by omega)) (fun i q1 q2 => hgH_o (by omega))) (fun gg hg => g.lw gg (by rw [hgH_o (by omega)] at hg; exact hg)) hn 0 0 hxh (by rw [hgH_o (by omega)]; exact hwh)
      have u1' : mx_sem 31 [mx_R 1 0, mx_I (nI n), mx_I 0, mx_I 0] a1 = some (some (mx_I (Fh h D n (h 4) code)), a2) := u1
      have he2 : ∀ k o j, ¬ SXb 1 k o j → ¬ (k = 1 ∧ o = 6) → ¬ o = 37 → ¬ o = 38 → a2 k o j = a0 k o j := fun k o j q1 q2 q3 q4 => by rw [u2 k o j q1]; exact he1 k o j q1 q2 q3 q4
      rw [u1', q_bI] at hX
      by_cases q : Fh h D n (h 4) code ≤ most
      · rw [if_pos q] at hX ⊢
        obtain ⟨a', z1, z2, z3⟩ := ih (code + 1) most B a2 (by omega) he2 (fun k hk => by rw [u2 0 38 k (ns0 _ _)]; exact hB1 k hk)
        exact ⟨a', hX.trans z1, z2, z3⟩
      · rw [if_neg q, q_c0 (n := h 4) (o := 37) (o1 := 38) rfl hn4 hn4 (by decide) (by decide)] at hX
        rw [if_neg q]
        obtain ⟨a', z1, z2, z3⟩ := ih (code + 1) (Fh h D n (h 4) code) (fun k => nI (Pk (h 4) code k)) (mx_cp a2 0 37 0 38 0 0 (h 4)) (by omega) (fun k o j q1 q2 q3 q4 => by rw [q_cpy, if_neg (by omega)]; exact he2 k o j q1 q2 q3 q4) (fun k hk => by
          rw [q_cpy, if_pos (by omega), show 0 + (k - 0) = k by omega, u2 0 37 k (ns0 _ _)]
          exact (y2 k hk).1)
        exact ⟨a', hX.trans z1, z2, z3⟩
    · rw [if_neg ok, if_pos rfl] at hX
      rw [if_neg ok]
      obtain ⟨a', z1, z2, z3⟩ := ih (code + 1) most B a1 (by omega) he1 hB1
      exact ⟨a', hX.trans z1, z2, z3⟩
theorem x_hang5 {np : Nat} (hn4 : np ≤ 4) {x1 : Int32} {a : mx_S} : ∀ (d k : Nat), k + d = np → mx_H 91 5 [some (mx_R 0 28), some (mx_I x1), some (mx_I (nI np)), some (mx_I (nI (np ^ k))), some (mx_I (nI k)), none, none] a = mx_bV none (mx_sem 34 [mx_R 1 0, mx_R 0 0] a) fun s1 => mx_H 91 24 [some (mx_R 0 28), some (mx_I x1), some (mx_I (nI np)), some (mx_I (nI (np ^ np))), some (mx_I (-1)), some (mx_I 0), none] s1 := by
  intro d
  induction d with
  | zero =>
    intro k hd
    have ek : k = np := by omega
    subst ek
    rw [e_X_hangBest_5, if_pos ((q_leN (by omega) (by omega)).mpr (Nat.le_refl _))]
  | succ d ih =>
    intro k hd
    rw [e_X_hangBest_5, if_neg (by rw [q_leN (by omega) (by omega)]; omega), q_mul, nI_1]
    exact ih (k + 1) (by omega)
/-- X's best hanging -/
theorem x_hangBest {h : Nat → Nat} {D : Nat → Nat → Nat} {c : Cr} (g : GH h D c) (p2 : 1 ≤ h 2) (p6 : 1 ≤ h 6) (h0 : 0 < h 4) (hn4 : h 4 ≤ 4) {n : Nat} (hn : n ≤ 120) {a : mx_S} (xh : XH 0 h D c a) : ∃ B a', mx_sem 91 [mx_R 0 28, mx_I (nI n), mx_I (nI (h 4))] a = some (some (mx_I (hgs (Fh h D n (h 4)) (h 4) (h 4 ^ h 4) 0 (-1) B).1), a') ∧ (∀ k, k < h 4 → a' 0 38 k = (hgs (Fh h D n (h 4)) (h 4) (h 4 ^ h 4) 0 (-1) B).2 k) ∧ kq JX a a' := by
  obtain ⟨a1, t1, t2, t3, t4, -⟩ := trial g.hb xh
  have x0 : XP 0 h (mt0 h) (lw0 h) a1 := xh.p.k (fun o j q1 q2 => t4 0 o j (fun q => by have := q.1; omega))
  obtain ⟨a2, y1, y2, y3⟩ := x_hang24 g p2 p6 h0 hn4 hn (ok_some h0 hn4).1 x0 t2 t3 (h 4 ^ h 4) 0 (-1) (fun k => a1 0 38 k) a1 (by omega) (fun _ _ _ _ _ _ _ => rfl) (fun _ _ => rfl)
  refine ⟨_, a2, ?_, y2, kq_tr (SP_J t4) (fun k o j q => y3 k o j (fun z => q (by unfold JX; have := z.1; have := z.2; omega)) (fun z => q (by unfold JX; omega)) (fun z => q (by unfold JX; omega)) (fun z => q (by unfold JX; omega)))⟩
  rw [e_X_hangBest, show mx_I 1 = mx_I (nI (h 4 ^ 0)) from rfl, show mx_I 0 = mx_I (nI 0) from rfl, x_hang5 hn4 (h 4) 0 (by omega), t1, q_bV]
  exact y1
