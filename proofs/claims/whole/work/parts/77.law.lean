/-! ===== one store for both: a call of the class, then the reference's ===== -/
theorem INV.xm {a b a' b' : mx_S} (x : INV a b) (qa : ∀ k o j, o < 39 → a' k o j = a k o j) (qb : ∀ k o j, 39 ≤ o → b' k o j = b k o j) : INV a' b' := by
  refine ⟨x.r.k (fun k o j ho => qa k o j (by omega)) (fun o j ho => qb 0 o j (by omega)), ?_, x.t.k (fun o j ho => qa 0 o j (by omega)) (fun o j ho => qb 0 o j (by omega)), ?_, x.tr.k (fun o j ho => qa 0 o j (by omega)) (fun o j ho => qb 0 o j (by omega)), ?_, x.l.k (fun o j h1 h2 => qa 0 o j (by omega)) (fun o j ho => qb 0 o j (by omega)), x.i0.k (fun o j h1 h2 => qa 2 o j (by omega)) (fun o j ho => qb 0 o j (by omega)) (Or.inl (qb 0 39 7 (by omega))), x.i1.k (fun o j h1 h2 => qa 3 o j (by omega)) (fun o j ho => qb 0 o j (by omega)) (Or.inl (qb 0 39 7 (by omega)))⟩
  · unfold IS
    rw [qa 0 28 9 (by omega), qb 0 39 1 (by omega)]; exact x.s
  · unfold IF
    rw [qa 0 28 8 (by omega), qb 0 39 12 (by omega)]; exact x.f
  · rw [qb 0 39 21 (by omega), qb 0 39 22 (by omega), qb 0 39 23 (by omega)]; exact x.e
theorem lw_both {yX yM : Nat} {as : List mx_V} {σ : mx_S} (h : ∀ a b, INV a b → Alk INV yX yM as a b) (hi : INV σ σ) (ha : mx_gS mx_GX as) (hb : mx_gS mx_GM as) : ∃ v s1 s2, mx_sem yX (mx_R 0 28 :: as) σ = some (some (mx_I v), s1) ∧ mx_sem yM (mx_R 0 39 :: as) s1 = some (some (mx_I v), s2) ∧ INV s2 s2 ∧ (∀ k j, s1 k 58 j = σ k 58 j) ∧ (∀ k j, s2 k 58 j = σ k 58 j) := by
  obtain ⟨v, s1, b1, h1, -, -⟩ := h σ σ hi
  have f1 := mx_frX h1 (mx_gS_cons.mpr ⟨fun _ => (by show 28 < 39; omega), ha⟩)
  have hi1 : INV σ s1 := hi.xm (fun _ _ _ _ => rfl) (fun k o j ho => congrFun (f1 k o ho) j)
  obtain ⟨v', a2, s2, g1, g2, g3⟩ := h σ s1 hi1
  rw [h1] at g1
  have e1 : v = v' := by injection g1 with g1; injection g1 with g1 _; injection g1 with g1; injection g1
  have e2 : s1 = a2 := by injection g1 with g1; injection g1
  subst e1
  subst e2
  have f2 := mx_frM g2 (mx_gS_cons.mpr ⟨fun _ => (by show 39 ≤ 39 ∧ 39 < 55; omega), hb⟩)
  have X1 : ∀ k j, s1 k 58 j = σ k 58 j := (mx_semX _ _ _ _ h1).1
  have X2 : ∀ k j, s2 k 58 j = s1 k 58 j := (mx_semX _ _ _ _ g2).1
  exact ⟨v, s1, s2, h1, g2, g3.xm (fun k o j ho => congrFun (f2 k o ho) j) (fun _ _ _ _ => rfl), X1, fun k j => (X2 k j).trans (X1 k j)⟩
theorem lw_gX0 : mx_gS mx_GX [] := mx_gS_nil
theorem lw_gX1 {a : Int32} : mx_gS mx_GX [mx_I a] := mx_gS_cons.mpr ⟨trivial, mx_gS_nil⟩
theorem lw_gX2 {a b : Int32} : mx_gS mx_GX [mx_I a, mx_I b] := mx_gS_cons.mpr ⟨trivial, lw_gX1⟩
theorem lw_gX3 {a b c : Int32} : mx_gS mx_GX [mx_I a, mx_I b, mx_I c] := mx_gS_cons.mpr ⟨trivial, lw_gX2⟩
theorem lw_gX4 {a b c d : Int32} : mx_gS mx_GX [mx_I a, mx_I b, mx_I c, mx_I d] := mx_gS_cons.mpr ⟨trivial, lw_gX3⟩
theorem lw_gX5 {a b c d e : Int32} : mx_gS mx_GX [mx_I a, mx_I b, mx_I c, mx_I d, mx_I e] := mx_gS_cons.mpr ⟨trivial, lw_gX4⟩
theorem lw_gXJ {w : Int64} {a : Int32} : mx_gS mx_GX [mx_J w, mx_I a] := mx_gS_cons.mpr ⟨trivial, lw_gX1⟩
theorem lw_gM0 : mx_gS mx_GM [] := mx_gS_nil
theorem lw_gM1 {a : Int32} : mx_gS mx_GM [mx_I a] := mx_gS_cons.mpr ⟨trivial, mx_gS_nil⟩
theorem lw_gM2 {a b : Int32} : mx_gS mx_GM [mx_I a, mx_I b] := mx_gS_cons.mpr ⟨trivial, lw_gM1⟩
theorem lw_gM3 {a b c : Int32} : mx_gS mx_GM [mx_I a, mx_I b, mx_I c] := mx_gS_cons.mpr ⟨trivial, lw_gM2⟩
theorem lw_gM4 {a b c d : Int32} : mx_gS mx_GM [mx_I a, mx_I b, mx_I c, mx_I d] := mx_gS_cons.mpr ⟨trivial, lw_gM3⟩
theorem lw_gM5 {a b c d e : Int32} : mx_gS mx_GM [mx_I a, mx_I b, mx_I c, mx_I d, mx_I e] := mx_gS_cons.mpr ⟨trivial, lw_gM4⟩
theorem lw_gMJ {w : Int64} {a : Int32} : mx_gS mx_GM [mx_J w, mx_I a] := mx_gS_cons.mpr ⟨trivial, lw_gM1⟩
theorem lw_gk {α : Type} {fl : α} {σ : mx_S} {L n : Nat} {f : Nat → α} {x : Int32} (hx : x = nI n) (hc : σ 0 58 0 = Int32.ofNat L) (h : n < L) (hL : L ≤ 3072) : mx_g fl x (σ 0 58 0).toNatClampNeg f = f n := by
  rw [hc, show (Int32.ofNat L).toNatClampNeg = L from q_cl (n := L) (by omega)]
  exact q_gx hx h (by omega)
theorem lw_g0 {α : Type} {fl : α} {σ : mx_S} {L i : Nat} {f : Nat → α} (hc : σ 0 58 0 = Int32.ofNat L) (h : i < L) (hL : L ≤ 3072) : mx_g fl (nI i) (σ 0 58 0).toNatClampNeg f = f i := lw_gk rfl hc h hL
theorem lw_g1 {α : Type} {fl : α} {σ : mx_S} {L i : Nat} {f : Nat → α} (hc : σ 0 58 0 = Int32.ofNat L) (h : i + 1 < L) (hL : L ≤ 3072) : mx_g fl (nI i + 1) (σ 0 58 0).toNatClampNeg f = f (i + 1) := lw_gk (nI_add i 1) hc h hL
theorem lw_g2 {α : Type} {fl : α} {σ : mx_S} {L i : Nat} {f : Nat → α} (hc : σ 0 58 0 = Int32.ofNat L) (h : i + 2 < L) (hL : L ≤ 3072) : mx_g fl (nI i + 2) (σ 0 58 0).toNatClampNeg f = f (i + 2) := lw_gk (nI_add i 2) hc h hL
theorem lw_g3 {α : Type} {fl : α} {σ : mx_S} {L i : Nat} {f : Nat → α} (hc : σ 0 58 0 = Int32.ofNat L) (h : i + 3 < L) (hL : L ≤ 3072) : mx_g fl (nI i + 3) (σ 0 58 0).toNatClampNeg f = f (i + 3) := lw_gk (nI_add i 3) hc h hL
theorem lw_g4 {α : Type} {fl : α} {σ : mx_S} {L i : Nat} {f : Nat → α} (hc : σ 0 58 0 = Int32.ofNat L) (h : i + 4 < L) (hL : L ≤ 3072) : mx_g fl (nI i + 4) (σ 0 58 0).toNatClampNeg f = f (i + 4) := lw_gk (nI_add i 4) hc h hL
theorem lw_g5 {α : Type} {fl : α} {σ : mx_S} {L i : Nat} {f : Nat → α} (hc : σ 0 58 0 = Int32.ofNat L) (h : i + 5 < L) (hL : L ≤ 3072) : mx_g fl (nI i + 5) (σ 0 58 0).toNatClampNeg f = f (i + 5) := lw_gk (nI_add i 5) hc h hL
theorem lw_le {L i : Nat} (hL : L ≤ 3072) (hi : i + 6 ≤ L) : ¬ (Int32.ofNat L - 6) < nI i := by
  have e : Int32.ofNat L - 6 = nI (L - 6) := q_sub (a := L) (b := 6) (by omega)
  rw [e, q_ltN (by omega) (by omega)]
  omega
theorem lw_gt {L i : Nat} (hL : L ≤ 3072) (hi : L < i + 6) (h2 : i ≤ L + 6) : (Int32.ofNat L - 6) < nI i := by
  rcases Nat.lt_or_ge L 6 with q | q
  · have hI : (nI i).toInt = (i : Int) := q_toI (by omega)
    rw [q_lt, hI]
    rcases (show L = 0 ∨ L = 1 ∨ L = 2 ∨ L = 3 ∨ L = 4 ∨ L = 5 by omega) with rfl | rfl | rfl | rfl | rfl | rfl
    · rw [show (Int32.ofNat 0 - 6).toInt = -6 by decide]; omega
    · rw [show (Int32.ofNat 1 - 6).toInt = -5 by decide]; omega
    · rw [show (Int32.ofNat 2 - 6).toInt = -4 by decide]; omega
    · rw [show (Int32.ofNat 3 - 6).toInt = -3 by decide]; omega
    · rw [show (Int32.ofNat 4 - 6).toInt = -2 by decide]; omega
    · rw [show (Int32.ofNat 5 - 6).toInt = -1 by decide]; omega
  · have e : Int32.ofNat L - 6 = nI (L - 6) := q_sub (a := L) (b := 6) (by omega)
    rw [e, q_ltN (by omega) (by omega)]
    omega
theorem lw_ne {a b : Nat} (h : a ≠ b) (hb : a < 32 ∧ b < 32) : ¬ nI a = Int32.ofNat b := fun q => h ((q_eqN (by omega) (by omega)).mp q)
set_option maxRecDepth 100000 in
set_option maxHeartbeats 4000000 in
theorem lw_c0 {L i : Nat} (hL : L ≤ 3072) (hi : i + 6 ≤ L) {σ : mx_S} (hc : σ 0 58 0 = Int32.ofNat L) (hv : (σ 1 58 i) &&& 31 = nI 0) (I : INV σ σ) : ∃ s2, mx_H 191 11 [some (mx_R 0 58), some (mx_R 0 28), some (mx_R 0 39), some (mx_I (nI i))] σ = mx_H 191 11 [some (mx_R 0 58), some (mx_R 0 28), some (mx_R 0 39), some (mx_I (nI i + 6))] s2 ∧ INV s2 s2 ∧ (∀ k j, s2 k 58 j = σ k 58 j) := by
  have h1 : i + 1 < L := by omega
  have h2 : i + 2 < L := by omega
  have h3 : i + 3 < L := by omega
  obtain ⟨v, s1, s2, q1, q2, I2, X1, X2⟩ := lw_both (as := [mx_I (σ 1 58 (i + 1)), mx_I (σ 1 58 (i + 2)), mx_I (σ 1 58 (i + 3))]) (fun a b x => iv_row x (σ 1 58 (i + 1)) (σ 1 58 (i + 2)) (σ 1 58 (i + 3))) I lw_gX3 lw_gM3
  have c1 : s1 0 58 0 = Int32.ofNat L := (X1 0 0).trans hc
  have e := e_L_law_11 (nI i) σ
  rw [if_neg (by rw [hc]; exact lw_le hL hi), lw_g0 hc (by omega) hL, hv, if_pos (by decide), lw_g1 hc h1 hL, lw_g2 hc h2 hL, lw_g3 hc h3 hL, q1, q_bI, lw_g1 c1 h1 hL, lw_g2 c1 h2 hL, lw_g3 c1 h3 hL, X1 1 (i + 1), X1 1 (i + 2), X1 1 (i + 3), q2, q_bI, if_pos rfl] at e
  exact ⟨s2, e, I2, X2⟩
set_option maxRecDepth 100000 in
set_option maxHeartbeats 4000000 in
theorem lw_c1 {L i : Nat} (hL : L ≤ 3072) (hi : i + 6 ≤ L) {σ : mx_S} (hc : σ 0 58 0 = Int32.ofNat L) (hv : (σ 1 58 i) &&& 31 = nI 1) (I : INV σ σ) : ∃ s2, mx_H 191 11 [some (mx_R 0 58), some (mx_R 0 28), some (mx_R 0 39), some (mx_I (nI i))] σ = mx_H 191 11 [some (mx_R 0 58), some (mx_R 0 28), some (mx_R 0 39), some (mx_I (nI i + 6))] s2 ∧ INV s2 s2 ∧ (∀ k j, s2 k 58 j = σ k 58 j) := by
  have h1 : i + 1 < L := by omega
  have h2 : i + 2 < L := by omega
  have h3 : i + 3 < L := by omega
  obtain ⟨v, s1, s2, q1, q2, I2, X1, X2⟩ := lw_both (as := [mx_I (σ 1 58 (i + 1)), mx_I (σ 1 58 (i + 2)), mx_I (σ 1 58 (i + 3))]) (fun a b x => iv_set x (σ 1 58 (i + 1)) (σ 1 58 (i + 2)) (σ 1 58 (i + 3))) I lw_gX3 lw_gM3
  have c1 : s1 0 58 0 = Int32.ofNat L := (X1 0 0).trans hc
  have e := e_L_law_11 (nI i) σ
  rw [if_neg (by rw [hc]; exact lw_le hL hi), lw_g0 hc (by omega) hL, hv, if_neg (by decide), if_pos (by decide), lw_g1 hc h1 hL, lw_g2 hc h2 hL, lw_g3 hc h3 hL, q1, q_bI, lw_g1 c1 h1 hL, lw_g2 c1 h2 hL, lw_g3 c1 h3 hL, X1 1 (i + 1), X1 1 (i + 2), X1 1 (i + 3), q2, q_bI, if_pos rfl] at e
  exact ⟨s2, e, I2, X2⟩
set_option maxRecDepth 100000 in
set_option maxHeartbeats 4000000 in
theorem lw_c2 {L i : Nat} (hL : L ≤ 3072) (hi : i + 6 ≤ L) {σ : mx_S} (hc : σ 0 58 0 = Int32.ofNat L) (hv : (σ 1 58 i) &&& 31 = nI 2) (I : INV σ σ) : ∃ s2, mx_H 191 11 [some (mx_R 0 58), some (mx_R 0 28), some (mx_R 0 39), some (mx_I (nI i))] σ = mx_H 191 11 [some (mx_R 0 58), some (mx_R 0 28), some (mx_R 0 39), some (mx_I (nI i + 6))] s2 ∧ INV s2 s2 ∧ (∀ k j, s2 k 58 j = σ k 58 j) := by
  have h1 : i + 1 < L := by omega
  have h2 : i + 2 < L := by omega
  have h3 : i + 3 < L := by omega
  have h4 : i + 4 < L := by omega
  have h5 : i + 5 < L := by omega
  obtain ⟨v, s1, s2, q1, q2, I2, X1, X2⟩ := lw_both (as := [mx_I (σ 1 58 (i + 1)), mx_I (σ 1 58 (i + 2)), mx_I (σ 1 58 (i + 3)), mx_I (σ 1 58 (i + 4)), mx_I (σ 1 58 (i + 5))]) (fun a b x => iv_copy x (σ 1 58 (i + 1)) (σ 1 58 (i + 2)) (σ 1 58 (i + 3)) (σ 1 58 (i + 4)) (σ 1 58 (i + 5))) I lw_gX5 lw_gM5
  have c1 : s1 0 58 0 = Int32.ofNat L := (X1 0 0).trans hc
  have e := e_L_law_11 (nI i) σ
  rw [if_neg (by rw [hc]; exact lw_le hL hi), lw_g0 hc (by omega) hL, hv, if_neg (by decide), if_neg (by decide), if_pos (by decide), lw_g1 hc h1 hL, lw_g2 hc h2 hL, lw_g3 hc h3 hL, lw_g4 hc h4 hL, lw_g5 hc h5 hL, q1, q_bI, lw_g1 c1 h1 hL, lw_g2 c1 h2 hL, lw_g3 c1 h3 hL, lw_g4 c1 h4 hL, lw_g5 c1 h5 hL, X1 1 (i + 1), X1 1 (i + 2), X1 1 (i + 3), X1 1 (i + 4), X1 1 (i + 5), q2, q_bI, if_pos rfl] at e
  exact ⟨s2, e, I2, X2⟩
set_option maxRecDepth 100000 in
set_option maxHeartbeats 4000000 in
theorem lw_c3 {L i : Nat} (hL : L ≤ 3072) (hi : i + 6 ≤ L) {σ : mx_S} (hc : σ 0 58 0 = Int32.ofNat L) (hv : (σ 1 58 i) &&& 31 = nI 3) (I : INV σ σ) : ∃ s2, mx_H 191 11 [some (mx_R 0 58), some (mx_R 0 28), some (mx_R 0 39), some (mx_I (nI i))] σ = mx_H 191 11 [some (mx_R 0 58), some (mx_R 0 28), some (mx_R 0 39), some (mx_I (nI i + 6))] s2 ∧ INV s2 s2 ∧ (∀ k j, s2 k 58 j = σ k 58 j) := by
  have h1 : i + 1 < L := by omega
  obtain ⟨v, s1, s2, q1, q2, I2, X1, X2⟩ := lw_both (as := [mx_I (σ 1 58 (i + 1))]) (fun a b x => iv_drop x (σ 1 58 (i + 1))) I lw_gX1 lw_gM1
  have c1 : s1 0 58 0 = Int32.ofNat L := (X1 0 0).trans hc
  have e := e_L_law_11 (nI i) σ
  rw [if_neg (by rw [hc]; exact lw_le hL hi), lw_g0 hc (by omega) hL, hv, if_neg (by decide), if_neg (by decide), if_neg (by decide), if_pos (by decide), lw_g1 hc h1 hL, q1, q_bI, lw_g1 c1 h1 hL, X1 1 (i + 1), q2, q_bI, if_pos rfl] at e
  exact ⟨s2, e, I2, X2⟩
set_option maxRecDepth 100000 in
set_option maxHeartbeats 4000000 in
theorem lw_c4 {L i : Nat} (hL : L ≤ 3072) (hi : i + 6 ≤ L) {σ : mx_S} (hc : σ 0 58 0 = Int32.ofNat L) (hv : (σ 1 58 i) &&& 31 = nI 4) (I : INV σ σ) : ∃ s2, mx_H 191 11 [some (mx_R 0 58), some (mx_R 0 28), some (mx_R 0 39), some (mx_I (nI i))] σ = mx_H 191 11 [some (mx_R 0 58), some (mx_R 0 28), some (mx_R 0 39), some (mx_I (nI i + 6))] s2 ∧ INV s2 s2 ∧ (∀ k j, s2 k 58 j = σ k 58 j) := by
  have h1 : i + 1 < L := by omega
  have h2 : i + 2 < L := by omega
  have h3 : i + 3 < L := by omega
  obtain ⟨v, s1, s2, q1, q2, I2, X1, X2⟩ := lw_both (as := [mx_J ((((σ 1 58 (i + 1)).toInt64) <<< (((32 : Int32)).toInt64 &&& 63)) ||| (((σ 1 58 (i + 2)).toInt64) &&& (4294967295 : Int64))), mx_I (σ 1 58 (i + 3))]) (fun a b x => iv_feed x ((((σ 1 58 (i + 1)).toInt64) <<< (((32 : Int32)).toInt64 &&& 63)) ||| (((σ 1 58 (i + 2)).toInt64) &&& (4294967295 : Int64))) (σ 1 58 (i + 3))) I lw_gXJ lw_gMJ
  have c1 : s1 0 58 0 = Int32.ofNat L := (X1 0 0).trans hc
  have e := e_L_law_11 (nI i) σ
  rw [if_neg (by rw [hc]; exact lw_le hL hi), lw_g0 hc (by omega) hL, hv, if_neg (by decide), if_neg (by decide), if_neg (by decide), if_neg (by decide), if_pos (by decide), lw_g1 hc h1 hL, lw_g2 hc h2 hL, lw_g3 hc h3 hL, q1, q_bI, lw_g1 c1 h1 hL, lw_g2 c1 h2 hL, lw_g3 c1 h3 hL, X1 1 (i + 1), X1 1 (i + 2), X1 1 (i + 3), q2, q_bI, if_pos rfl] at e
  exact ⟨s2, e, I2, X2⟩
set_option maxRecDepth 100000 in
set_option maxHeartbeats 4000000 in
theorem lw_c5 {L i : Nat} (hL : L ≤ 3072) (hi : i + 6 ≤ L) {σ : mx_S} (hc : σ 0 58 0 = Int32.ofNat L) (hv : (σ 1 58 i) &&& 31 = nI 5) (I : INV σ σ) : ∃ s2, mx_H 191 11 [some (mx_R 0 58), some (mx_R 0 28), some (mx_R 0 39), some (mx_I (nI i))] σ = mx_H 191 11 [some (mx_R 0 58), some (mx_R 0 28), some (mx_R 0 39), some (mx_I (nI i + 6))] s2 ∧ INV s2 s2 ∧ (∀ k j, s2 k 58 j = σ k 58 j) := by
  obtain ⟨v, s1, s2, q1, q2, I2, X1, X2⟩ := lw_both (as := []) (fun a b x => iv_house x) I lw_gX0 lw_gM0
  have c1 : s1 0 58 0 = Int32.ofNat L := (X1 0 0).trans hc
  have e := e_L_law_11 (nI i) σ
  rw [if_neg (by rw [hc]; exact lw_le hL hi), lw_g0 hc (by omega) hL, hv, if_neg (by decide), if_neg (by decide), if_neg (by decide), if_neg (by decide), if_neg (by decide), if_pos (by decide), q1, q_bI, q2, q_bI, if_pos rfl] at e
  exact ⟨s2, e, I2, X2⟩
set_option maxRecDepth 100000 in
set_option maxHeartbeats 4000000 in
theorem lw_c6 {L i : Nat} (hL : L ≤ 3072) (hi : i + 6 ≤ L) {σ : mx_S} (hc : σ 0 58 0 = Int32.ofNat L) (hv : (σ 1 58 i) &&& 31 = nI 6) (I : INV σ σ) : ∃ s2, mx_H 191 11 [some (mx_R 0 58), some (mx_R 0 28), some (mx_R 0 39), some (mx_I (nI i))] σ = mx_H 191 11 [some (mx_R 0 58), some (mx_R 0 28), some (mx_R 0 39), some (mx_I (nI i + 6))] s2 ∧ INV s2 s2 ∧ (∀ k j, s2 k 58 j = σ k 58 j) := by
  obtain ⟨v, s1, s2, q1, q2, I2, X1, X2⟩ := lw_both (as := []) (fun a b x => iv_fault x) I lw_gX0 lw_gM0
  have c1 : s1 0 58 0 = Int32.ofNat L := (X1 0 0).trans hc
  have e := e_L_law_11 (nI i) σ
  rw [if_neg (by rw [hc]; exact lw_le hL hi), lw_g0 hc (by omega) hL, hv, if_neg (by decide), if_neg (by decide), if_neg (by decide), if_neg (by decide), if_neg (by decide), if_neg (by decide), if_pos (by decide), q1, q_bI, q2, q_bI, if_pos rfl] at e
  exact ⟨s2, e, I2, X2⟩
set_option maxRecDepth 100000 in
set_option maxHeartbeats 4000000 in
theorem lw_c7 {L i : Nat} (hL : L ≤ 3072) (hi : i + 6 ≤ L) {σ : mx_S} (hc : σ 0 58 0 = Int32.ofNat L) (hv : (σ 1 58 i) &&& 31 = nI 7) (I : INV σ σ) : ∃ s2, mx_H 191 11 [some (mx_R 0 58), some (mx_R 0 28), some (mx_R 0 39), some (mx_I (nI i))] σ = mx_H 191 11 [some (mx_R 0 58), some (mx_R 0 28), some (mx_R 0 39), some (mx_I (nI i + 6))] s2 ∧ INV s2 s2 ∧ (∀ k j, s2 k 58 j = σ k 58 j) := by
  have h1 : i + 1 < L := by omega
  have h2 : i + 2 < L := by omega
  obtain ⟨v, s1, s2, q1, q2, I2, X1, X2⟩ := lw_both (as := [mx_I (σ 1 58 (i + 1)), mx_I (σ 1 58 (i + 2))]) (fun a b x => iv_far x (σ 1 58 (i + 1)) (σ 1 58 (i + 2))) I lw_gX2 lw_gM2
  have c1 : s1 0 58 0 = Int32.ofNat L := (X1 0 0).trans hc
  have e := e_L_law_11 (nI i) σ
  rw [if_neg (by rw [hc]; exact lw_le hL hi), lw_g0 hc (by omega) hL, hv, if_neg (by decide), if_neg (by decide), if_neg (by decide), if_neg (by decide), if_neg (by decide), if_neg (by decide), if_neg (by decide), if_pos (by decide), lw_g1 hc h1 hL, lw_g2 hc h2 hL, q1, q_bI, lw_g1 c1 h1 hL, lw_g2 c1 h2 hL, X1 1 (i + 1), X1 1 (i + 2), q2, q_bI, if_pos rfl] at e
  exact ⟨s2, e, I2, X2⟩
set_option maxRecDepth 100000 in
set_option maxHeartbeats 4000000 in
theorem lw_c8 {L i : Nat} (hL : L ≤ 3072) (hi : i + 6 ≤ L) {σ : mx_S} (hc : σ 0 58 0 = Int32.ofNat L) (hv : (σ 1 58 i) &&& 31 = nI 8) (I : INV σ σ) : ∃ s2, mx_H 191 11 [some (mx_R 0 58), some (mx_R 0 28), some (mx_R 0 39), some (mx_I (nI i))] σ = mx_H 191 11 [some (mx_R 0 58), some (mx_R 0 28), some (mx_R 0 39), some (mx_I (nI i + 6))] s2 ∧ INV s2 s2 ∧ (∀ k j, s2 k 58 j = σ k 58 j) := by
  have h1 : i + 1 < L := by omega
  obtain ⟨v, s1, s2, q1, q2, I2, X1, X2⟩ := lw_both (as := [mx_I (σ 1 58 (i + 1))]) (fun a b x => iv_go x (σ 1 58 (i + 1))) I lw_gX1 lw_gM1
  have c1 : s1 0 58 0 = Int32.ofNat L := (X1 0 0).trans hc
  have e := e_L_law_11 (nI i) σ
  rw [if_neg (by rw [hc]; exact lw_le hL hi), lw_g0 hc (by omega) hL, hv, if_neg (by decide), if_neg (by decide), if_neg (by decide), if_neg (by decide), if_neg (by decide), if_neg (by decide), if_neg (by decide), if_neg (by decide), if_pos (by decide), lw_g1 hc h1 hL, q1, q_bI, lw_g1 c1 h1 hL, X1 1 (i + 1), q2, q_bI, if_pos rfl] at e
  exact ⟨s2, e, I2, X2⟩
set_option maxRecDepth 100000 in
set_option maxHeartbeats 4000000 in
theorem lw_c9 {L i : Nat} (hL : L ≤ 3072) (hi : i + 6 ≤ L) {σ : mx_S} (hc : σ 0 58 0 = Int32.ofNat L) (hv : (σ 1 58 i) &&& 31 = nI 9) (I : INV σ σ) : ∃ s2, mx_H 191 11 [some (mx_R 0 58), some (mx_R 0 28), some (mx_R 0 39), some (mx_I (nI i))] σ = mx_H 191 11 [some (mx_R 0 58), some (mx_R 0 28), some (mx_R 0 39), some (mx_I (nI i + 6))] s2 ∧ INV s2 s2 ∧ (∀ k j, s2 k 58 j = σ k 58 j) := by
  have h1 : i + 1 < L := by omega
  have h2 : i + 2 < L := by omega
  obtain ⟨v, s1, s2, q1, q2, I2, X1, X2⟩ := lw_both (as := [mx_I (σ 1 58 (i + 1)), mx_I (σ 1 58 (i + 2))]) (fun a b x => iv_rule x (σ 1 58 (i + 1)) (σ 1 58 (i + 2))) I lw_gX2 lw_gM2
  have c1 : s1 0 58 0 = Int32.ofNat L := (X1 0 0).trans hc
  have e := e_L_law_11 (nI i) σ
  rw [if_neg (by rw [hc]; exact lw_le hL hi), lw_g0 hc (by omega) hL, hv, if_neg (by decide), if_neg (by decide), if_neg (by decide), if_neg (by decide), if_neg (by decide), if_neg (by decide), if_neg (by decide), if_neg (by decide), if_neg (by decide), if_pos (by decide), lw_g1 hc h1 hL, lw_g2 hc h2 hL, q1, q_bI, lw_g1 c1 h1 hL, lw_g2 c1 h2 hL, X1 1 (i + 1), X1 1 (i + 2), q2, q_bI, if_pos rfl] at e
  exact ⟨s2, e, I2, X2⟩
set_option maxRecDepth 100000 in
set_option maxHeartbeats 4000000 in
theorem lw_c10 {L i : Nat} (hL : L ≤ 3072) (hi : i + 6 ≤ L) {σ : mx_S} (hc : σ 0 58 0 = Int32.ofNat L) (hv : (σ 1 58 i) &&& 31 = nI 10) (I : INV σ σ) : ∃ s2, mx_H 191 11 [some (mx_R 0 58), some (mx_R 0 28), some (mx_R 0 39), some (mx_I (nI i))] σ = mx_H 191 11 [some (mx_R 0 58), some (mx_R 0 28), some (mx_R 0 39), some (mx_I (nI i + 6))] s2 ∧ INV s2 s2 ∧ (∀ k j, s2 k 58 j = σ k 58 j) := by
  have h1 : i + 1 < L := by omega
  have h2 : i + 2 < L := by omega
  obtain ⟨v, s1, s2, q1, q2, I2, X1, X2⟩ := lw_both (as := [mx_I (σ 1 58 (i + 1)), mx_I (σ 1 58 (i + 2))]) (fun a b x => iv_visitor x (σ 1 58 (i + 1)) (σ 1 58 (i + 2))) I lw_gX2 lw_gM2
  have c1 : s1 0 58 0 = Int32.ofNat L := (X1 0 0).trans hc
  have e := e_L_law_11 (nI i) σ
  rw [if_neg (by rw [hc]; exact lw_le hL hi), lw_g0 hc (by omega) hL, hv, if_neg (by decide), if_neg (by decide), if_neg (by decide), if_neg (by decide), if_neg (by decide), if_neg (by decide), if_neg (by decide), if_neg (by decide), if_neg (by decide), if_neg (by decide), if_pos (by decide), lw_g1 hc h1 hL, lw_g2 hc h2 hL, q1, q_bI, lw_g1 c1 h1 hL, lw_g2 c1 h2 hL, X1 1 (i + 1), X1 1 (i + 2), q2, q_bI, if_pos rfl] at e
  exact ⟨s2, e, I2, X2⟩
set_option maxRecDepth 100000 in
set_option maxHeartbeats 4000000 in
theorem lw_c11 {L i : Nat} (hL : L ≤ 3072) (hi : i + 6 ≤ L) {σ : mx_S} (hc : σ 0 58 0 = Int32.ofNat L) (hv : (σ 1 58 i) &&& 31 = nI 11) (I : INV σ σ) : ∃ s2, mx_H 191 11 [some (mx_R 0 58), some (mx_R 0 28), some (mx_R 0 39), some (mx_I (nI i))] σ = mx_H 191 11 [some (mx_R 0 58), some (mx_R 0 28), some (mx_R 0 39), some (mx_I (nI i + 6))] s2 ∧ INV s2 s2 ∧ (∀ k j, s2 k 58 j = σ k 58 j) := by
  have h1 : i + 1 < L := by omega
  have h2 : i + 2 < L := by omega
  obtain ⟨v, s1, s2, q1, q2, I2, X1, X2⟩ := lw_both (as := [mx_I (σ 1 58 (i + 1)), mx_I (σ 1 58 (i + 2))]) (fun a b x => iv_room x (σ 1 58 (i + 1)) (σ 1 58 (i + 2))) I lw_gX2 lw_gM2
  have c1 : s1 0 58 0 = Int32.ofNat L := (X1 0 0).trans hc
  have e := e_L_law_11 (nI i) σ
  rw [if_neg (by rw [hc]; exact lw_le hL hi), lw_g0 hc (by omega) hL, hv, if_neg (by decide), if_neg (by decide), if_neg (by decide), if_neg (by decide), if_neg (by decide), if_neg (by decide), if_neg (by decide), if_neg (by decide), if_neg (by decide), if_neg (by decide), if_neg (by decide), if_pos (by decide), lw_g1 hc h1 hL, lw_g2 hc h2 hL, q1, q_bI, lw_g1 c1 h1 hL, lw_g2 c1 h2 hL, X1 1 (i + 1), X1 1 (i + 2), q2, q_bI, if_pos rfl] at e
  exact ⟨s2, e, I2, X2⟩
set_option maxRecDepth 100000 in
set_option maxHeartbeats 4000000 in
theorem lw_c12 {L i : Nat} (hL : L ≤ 3072) (hi : i + 6 ≤ L) {σ : mx_S} (hc : σ 0 58 0 = Int32.ofNat L) (hv : (σ 1 58 i) &&& 31 = nI 12) (I : INV σ σ) : ∃ s2, mx_H 191 11 [some (mx_R 0 58), some (mx_R 0 28), some (mx_R 0 39), some (mx_I (nI i))] σ = mx_H 191 11 [some (mx_R 0 58), some (mx_R 0 28), some (mx_R 0 39), some (mx_I (nI i + 6))] s2 ∧ INV s2 s2 ∧ (∀ k j, s2 k 58 j = σ k 58 j) := by
  have h1 : i + 1 < L := by omega
  have h2 : i + 2 < L := by omega
  obtain ⟨v, s1, s2, q1, q2, I2, X1, X2⟩ := lw_both (as := [mx_I (σ 1 58 (i + 1)), mx_I (σ 1 58 (i + 2))]) (fun a b x => iv_seen x (σ 1 58 (i + 1)) (σ 1 58 (i + 2))) I lw_gX2 lw_gM2
  have c1 : s1 0 58 0 = Int32.ofNat L := (X1 0 0).trans hc
  have e := e_L_law_11 (nI i) σ
  rw [if_neg (by rw [hc]; exact lw_le hL hi), lw_g0 hc (by omega) hL, hv, if_neg (by decide), if_neg (by decide), if_neg (by decide), if_neg (by decide), if_neg (by decide), if_neg (by decide), if_neg (by decide), if_neg (by decide), if_neg (by decide), if_neg (by decide), if_neg (by decide), if_neg (by decide), if_pos (by decide), lw_g1 hc h1 hL, lw_g2 hc h2 hL, q1, q_bI, lw_g1 c1 h1 hL, lw_g2 c1 h2 hL, X1 1 (i + 1), X1 1 (i + 2), q2, q_bI, if_pos rfl] at e
  exact ⟨s2, e, I2, X2⟩
set_option maxRecDepth 100000 in
set_option maxHeartbeats 4000000 in
theorem lw_c13 {L i : Nat} (hL : L ≤ 3072) (hi : i + 6 ≤ L) {σ : mx_S} (hc : σ 0 58 0 = Int32.ofNat L) (hv : (σ 1 58 i) &&& 31 = nI 13) (I : INV σ σ) : ∃ s2, mx_H 191 11 [some (mx_R 0 58), some (mx_R 0 28), some (mx_R 0 39), some (mx_I (nI i))] σ = mx_H 191 11 [some (mx_R 0 58), some (mx_R 0 28), some (mx_R 0 39), some (mx_I (nI i + 6))] s2 ∧ INV s2 s2 ∧ (∀ k j, s2 k 58 j = σ k 58 j) := by
  have h1 : i + 1 < L := by omega
  have h2 : i + 2 < L := by omega
  have h3 : i + 3 < L := by omega
  obtain ⟨v, s1, s2, q1, q2, I2, X1, X2⟩ := lw_both (as := [mx_I (σ 1 58 (i + 1)), mx_I (σ 1 58 (i + 2)), mx_I (σ 1 58 (i + 3))]) (fun a b x => iv_bestRule x (σ 1 58 (i + 1)) (σ 1 58 (i + 2)) (σ 1 58 (i + 3))) I lw_gX3 lw_gM3
  have c1 : s1 0 58 0 = Int32.ofNat L := (X1 0 0).trans hc
  have e := e_L_law_11 (nI i) σ
  rw [if_neg (by rw [hc]; exact lw_le hL hi), lw_g0 hc (by omega) hL, hv, if_neg (by decide), if_neg (by decide), if_neg (by decide), if_neg (by decide), if_neg (by decide), if_neg (by decide), if_neg (by decide), if_neg (by decide), if_neg (by decide), if_neg (by decide), if_neg (by decide), if_neg (by decide), if_neg (by decide), if_pos (by decide), lw_g1 hc h1 hL, lw_g2 hc h2 hL, lw_g3 hc h3 hL, q1, q_bI, lw_g1 c1 h1 hL, lw_g2 c1 h2 hL, lw_g3 c1 h3 hL, X1 1 (i + 1), X1 1 (i + 2), X1 1 (i + 3), q2, q_bI, if_pos rfl] at e
  exact ⟨s2, e, I2, X2⟩
set_option maxRecDepth 100000 in
set_option maxHeartbeats 4000000 in
theorem lw_c14 {L i : Nat} (hL : L ≤ 3072) (hi : i + 6 ≤ L) {σ : mx_S} (hc : σ 0 58 0 = Int32.ofNat L) (hv : (σ 1 58 i) &&& 31 = nI 14) (I : INV σ σ) : ∃ s2, mx_H 191 11 [some (mx_R 0 58), some (mx_R 0 28), some (mx_R 0 39), some (mx_I (nI i))] σ = mx_H 191 11 [some (mx_R 0 58), some (mx_R 0 28), some (mx_R 0 39), some (mx_I (nI i + 6))] s2 ∧ INV s2 s2 ∧ (∀ k j, s2 k 58 j = σ k 58 j) := by
  have h1 : i + 1 < L := by omega
  have h2 : i + 2 < L := by omega
  obtain ⟨v, s1, s2, q1, q2, I2, X1, X2⟩ := lw_both (as := [mx_I (σ 1 58 (i + 1)), mx_I (σ 1 58 (i + 2))]) (fun a b x => iv_tickets x (σ 1 58 (i + 1)) (σ 1 58 (i + 2))) I lw_gX2 lw_gM2
  have c1 : s1 0 58 0 = Int32.ofNat L := (X1 0 0).trans hc
  have e := e_L_law_11 (nI i) σ
  rw [if_neg (by rw [hc]; exact lw_le hL hi), lw_g0 hc (by omega) hL, hv, if_neg (by decide), if_neg (by decide), if_neg (by decide), if_neg (by decide), if_neg (by decide), if_neg (by decide), if_neg (by decide), if_neg (by decide), if_neg (by decide), if_neg (by decide), if_neg (by decide), if_neg (by decide), if_neg (by decide), if_neg (by decide), if_pos (by decide), lw_g1 hc h1 hL, lw_g2 hc h2 hL, q1, q_bI, lw_g1 c1 h1 hL, lw_g2 c1 h2 hL, X1 1 (i + 1), X1 1 (i + 2), q2, q_bI, if_pos rfl] at e
  exact ⟨s2, e, I2, X2⟩
set_option maxRecDepth 100000 in
set_option maxHeartbeats 4000000 in
theorem lw_c15 {L i : Nat} (hL : L ≤ 3072) (hi : i + 6 ≤ L) {σ : mx_S} (hc : σ 0 58 0 = Int32.ofNat L) (hv : (σ 1 58 i) &&& 31 = nI 15) (I : INV σ σ) : ∃ s2, mx_H 191 11 [some (mx_R 0 58), some (mx_R 0 28), some (mx_R 0 39), some (mx_I (nI i))] σ = mx_H 191 11 [some (mx_R 0 58), some (mx_R 0 28), some (mx_R 0 39), some (mx_I (nI i + 6))] s2 ∧ INV s2 s2 ∧ (∀ k j, s2 k 58 j = σ k 58 j) := by
  have h1 : i + 1 < L := by omega
  have h2 : i + 2 < L := by omega
  obtain ⟨v, s1, s2, q1, q2, I2, X1, X2⟩ := lw_both (as := [mx_I (σ 1 58 (i + 1)), mx_I (σ 1 58 (i + 2))]) (fun a b x => iv_oneWay x (σ 1 58 (i + 1)) (σ 1 58 (i + 2))) I lw_gX2 lw_gM2
  have c1 : s1 0 58 0 = Int32.ofNat L := (X1 0 0).trans hc
  have e := e_L_law_11 (nI i) σ
  rw [if_neg (by rw [hc]; exact lw_le hL hi), lw_g0 hc (by omega) hL, hv, if_neg (by decide), if_neg (by decide), if_neg (by decide), if_neg (by decide), if_neg (by decide), if_neg (by decide), if_neg (by decide), if_neg (by decide), if_neg (by decide), if_neg (by decide), if_neg (by decide), if_neg (by decide), if_neg (by decide), if_neg (by decide), if_neg (by decide), if_pos (by decide), lw_g1 hc h1 hL, lw_g2 hc h2 hL, q1, q_bI, lw_g1 c1 h1 hL, lw_g2 c1 h2 hL, X1 1 (i + 1), X1 1 (i + 2), q2, q_bI, if_pos rfl] at e
  exact ⟨s2, e, I2, X2⟩
set_option maxRecDepth 100000 in
set_option maxHeartbeats 4000000 in
theorem lw_c16 {L i : Nat} (hL : L ≤ 3072) (hi : i + 6 ≤ L) {σ : mx_S} (hc : σ 0 58 0 = Int32.ofNat L) (hv : (σ 1 58 i) &&& 31 = nI 16) (I : INV σ σ) : ∃ s2, mx_H 191 11 [some (mx_R 0 58), some (mx_R 0 28), some (mx_R 0 39), some (mx_I (nI i))] σ = mx_H 191 11 [some (mx_R 0 58), some (mx_R 0 28), some (mx_R 0 39), some (mx_I (nI i + 6))] s2 ∧ INV s2 s2 ∧ (∀ k j, s2 k 58 j = σ k 58 j) := by
  have h1 : i + 1 < L := by omega
  have h2 : i + 2 < L := by omega
  have h3 : i + 3 < L := by omega
  obtain ⟨v, s1, s2, q1, q2, I2, X1, X2⟩ := lw_both (as := [mx_I (σ 1 58 (i + 1)), mx_I (σ 1 58 (i + 2)), mx_I (σ 1 58 (i + 3))]) (fun a b x => iv_picture x (σ 1 58 (i + 1)) (σ 1 58 (i + 2)) (σ 1 58 (i + 3))) I lw_gX3 lw_gM3
  have c1 : s1 0 58 0 = Int32.ofNat L := (X1 0 0).trans hc
  have e := e_L_law_11 (nI i) σ
  rw [if_neg (by rw [hc]; exact lw_le hL hi), lw_g0 hc (by omega) hL, hv, if_neg (by decide), if_neg (by decide), if_neg (by decide), if_neg (by decide), if_neg (by decide), if_neg (by decide), if_neg (by decide), if_neg (by decide), if_neg (by decide), if_neg (by decide), if_neg (by decide), if_neg (by decide), if_neg (by decide), if_neg (by decide), if_neg (by decide), if_neg (by decide), if_pos (by decide), lw_g1 hc h1 hL, lw_g2 hc h2 hL, lw_g3 hc h3 hL, q1, q_bI, lw_g1 c1 h1 hL, lw_g2 c1 h2 hL, lw_g3 c1 h3 hL, X1 1 (i + 1), X1 1 (i + 2), X1 1 (i + 3), q2, q_bI, if_pos rfl] at e
  exact ⟨s2, e, I2, X2⟩
set_option maxRecDepth 100000 in
set_option maxHeartbeats 4000000 in
theorem lw_c17 {L i : Nat} (hL : L ≤ 3072) (hi : i + 6 ≤ L) {σ : mx_S} (hc : σ 0 58 0 = Int32.ofNat L) (hv : (σ 1 58 i) &&& 31 = nI 17) (I : INV σ σ) : ∃ s2, mx_H 191 11 [some (mx_R 0 58), some (mx_R 0 28), some (mx_R 0 39), some (mx_I (nI i))] σ = mx_H 191 11 [some (mx_R 0 58), some (mx_R 0 28), some (mx_R 0 39), some (mx_I (nI i + 6))] s2 ∧ INV s2 s2 ∧ (∀ k j, s2 k 58 j = σ k 58 j) := by
  have h1 : i + 1 < L := by omega
  have h2 : i + 2 < L := by omega
  obtain ⟨v, s1, s2, q1, q2, I2, X1, X2⟩ := lw_both (as := [mx_I (σ 1 58 (i + 1)), mx_I (σ 1 58 (i + 2))]) (fun a b x => iv_hung x (σ 1 58 (i + 1)) (σ 1 58 (i + 2))) I lw_gX2 lw_gM2
  have c1 : s1 0 58 0 = Int32.ofNat L := (X1 0 0).trans hc
  have e := e_L_law_11 (nI i) σ
  rw [if_neg (by rw [hc]; exact lw_le hL hi), lw_g0 hc (by omega) hL, hv, if_neg (by decide), if_neg (by decide), if_neg (by decide), if_neg (by decide), if_neg (by decide), if_neg (by decide), if_neg (by decide), if_neg (by decide), if_neg (by decide), if_neg (by decide), if_neg (by decide), if_neg (by decide), if_neg (by decide), if_neg (by decide), if_neg (by decide), if_neg (by decide), if_neg (by decide), if_pos (by decide), lw_g1 hc h1 hL, lw_g2 hc h2 hL, q1, q_bI, lw_g1 c1 h1 hL, lw_g2 c1 h2 hL, X1 1 (i + 1), X1 1 (i + 2), q2, q_bI, if_pos rfl] at e
  exact ⟨s2, e, I2, X2⟩
set_option maxRecDepth 100000 in
set_option maxHeartbeats 4000000 in
theorem lw_c18 {L i : Nat} (hL : L ≤ 3072) (hi : i + 6 ≤ L) {σ : mx_S} (hc : σ 0 58 0 = Int32.ofNat L) (hv : (σ 1 58 i) &&& 31 = nI 18) (I : INV σ σ) : ∃ s2, mx_H 191 11 [some (mx_R 0 58), some (mx_R 0 28), some (mx_R 0 39), some (mx_I (nI i))] σ = mx_H 191 11 [some (mx_R 0 58), some (mx_R 0 28), some (mx_R 0 39), some (mx_I (nI i + 6))] s2 ∧ INV s2 s2 ∧ (∀ k j, s2 k 58 j = σ k 58 j) := by
  obtain ⟨v, s1, s2, q1, q2, I2, X1, X2⟩ := lw_both (as := []) (fun a b x => iv_fire x) I lw_gX0 lw_gM0
  have c1 : s1 0 58 0 = Int32.ofNat L := (X1 0 0).trans hc
  have e := e_L_law_11 (nI i) σ
  rw [if_neg (by rw [hc]; exact lw_le hL hi), lw_g0 hc (by omega) hL, hv, if_neg (by decide), if_neg (by decide), if_neg (by decide), if_neg (by decide), if_neg (by decide), if_neg (by decide), if_neg (by decide), if_neg (by decide), if_neg (by decide), if_neg (by decide), if_neg (by decide), if_neg (by decide), if_neg (by decide), if_neg (by decide), if_neg (by decide), if_neg (by decide), if_neg (by decide), if_neg (by decide), if_pos (by decide), q1, q_bI, q2, q_bI, if_pos rfl] at e
  exact ⟨s2, e, I2, X2⟩
set_option maxRecDepth 100000 in
set_option maxHeartbeats 4000000 in
theorem lw_c19 {L i : Nat} (hL : L ≤ 3072) (hi : i + 6 ≤ L) {σ : mx_S} (hc : σ 0 58 0 = Int32.ofNat L) (hv : (σ 1 58 i) &&& 31 = nI 19) (I : INV σ σ) : ∃ s2, mx_H 191 11 [some (mx_R 0 58), some (mx_R 0 28), some (mx_R 0 39), some (mx_I (nI i))] σ = mx_H 191 11 [some (mx_R 0 58), some (mx_R 0 28), some (mx_R 0 39), some (mx_I (nI i + 6))] s2 ∧ INV s2 s2 ∧ (∀ k j, s2 k 58 j = σ k 58 j) := by
  have h1 : i + 1 < L := by omega
  have h2 : i + 2 < L := by omega
  have h3 : i + 3 < L := by omega
  have h4 : i + 4 < L := by omega
  obtain ⟨v, s1, s2, q1, q2, I2, X1, X2⟩ := lw_both (as := [mx_I (σ 1 58 (i + 1)), mx_I (σ 1 58 (i + 2)), mx_I (σ 1 58 (i + 3)), mx_I (σ 1 58 (i + 4))]) (fun a b x => iv_counts x (σ 1 58 (i + 1)) (σ 1 58 (i + 2)) (σ 1 58 (i + 3)) (σ 1 58 (i + 4))) I lw_gX4 lw_gM4
  have c1 : s1 0 58 0 = Int32.ofNat L := (X1 0 0).trans hc
  have e := e_L_law_11 (nI i) σ
  rw [if_neg (by rw [hc]; exact lw_le hL hi), lw_g0 hc (by omega) hL, hv, if_neg (by decide), if_neg (by decide), if_neg (by decide), if_neg (by decide), if_neg (by decide), if_neg (by decide), if_neg (by decide), if_neg (by decide), if_neg (by decide), if_neg (by decide), if_neg (by decide), if_neg (by decide), if_neg (by decide), if_neg (by decide), if_neg (by decide), if_neg (by decide), if_neg (by decide), if_neg (by decide), if_neg (by decide), if_pos (by decide), lw_g1 hc h1 hL, lw_g2 hc h2 hL, lw_g3 hc h3 hL, lw_g4 hc h4 hL, q1, q_bI, lw_g1 c1 h1 hL, lw_g2 c1 h2 hL, lw_g3 c1 h3 hL, lw_g4 c1 h4 hL, X1 1 (i + 1), X1 1 (i + 2), X1 1 (i + 3), X1 1 (i + 4), q2, q_bI, if_pos rfl] at e
  exact ⟨s2, e, I2, X2⟩
set_option maxRecDepth 100000 in
set_option maxHeartbeats 4000000 in
theorem lw_c20 {L i : Nat} (hL : L ≤ 3072) (hi : i + 6 ≤ L) {σ : mx_S} (hc : σ 0 58 0 = Int32.ofNat L) (hv : (σ 1 58 i) &&& 31 = nI 20) (I : INV σ σ) : ∃ s2, mx_H 191 11 [some (mx_R 0 58), some (mx_R 0 28), some (mx_R 0 39), some (mx_I (nI i))] σ = mx_H 191 11 [some (mx_R 0 58), some (mx_R 0 28), some (mx_R 0 39), some (mx_I (nI i + 6))] s2 ∧ INV s2 s2 ∧ (∀ k j, s2 k 58 j = σ k 58 j) := by
  have h1 : i + 1 < L := by omega
  obtain ⟨v, s1, s2, q1, q2, I2, X1, X2⟩ := lw_both (as := [mx_I (σ 1 58 (i + 1))]) (fun a b x => iv_image x (σ 1 58 (i + 1))) I lw_gX1 lw_gM1
  have c1 : s1 0 58 0 = Int32.ofNat L := (X1 0 0).trans hc
  have e := e_L_law_11 (nI i) σ
  rw [if_neg (by rw [hc]; exact lw_le hL hi), lw_g0 hc (by omega) hL, hv, if_neg (by decide), if_neg (by decide), if_neg (by decide), if_neg (by decide), if_neg (by decide), if_neg (by decide), if_neg (by decide), if_neg (by decide), if_neg (by decide), if_neg (by decide), if_neg (by decide), if_neg (by decide), if_neg (by decide), if_neg (by decide), if_neg (by decide), if_neg (by decide), if_neg (by decide), if_neg (by decide), if_neg (by decide), if_neg (by decide), if_pos (by decide), lw_g1 hc h1 hL, q1, q_bI, lw_g1 c1 h1 hL, X1 1 (i + 1), q2, q_bI, if_pos rfl] at e
  exact ⟨s2, e, I2, X2⟩
set_option maxRecDepth 100000 in
set_option maxHeartbeats 4000000 in
theorem lw_c21 {L i : Nat} (hL : L ≤ 3072) (hi : i + 6 ≤ L) {σ : mx_S} (hc : σ 0 58 0 = Int32.ofNat L) (hv : (σ 1 58 i) &&& 31 = nI 21) (I : INV σ σ) : ∃ s2, mx_H 191 11 [some (mx_R 0 58), some (mx_R 0 28), some (mx_R 0 39), some (mx_I (nI i))] σ = mx_H 191 11 [some (mx_R 0 58), some (mx_R 0 28), some (mx_R 0 39), some (mx_I (nI i + 6))] s2 ∧ INV s2 s2 ∧ (∀ k j, s2 k 58 j = σ k 58 j) := by
  have h1 : i + 1 < L := by omega
  obtain ⟨v, s1, s2, q1, q2, I2, X1, X2⟩ := lw_both (as := [mx_I (σ 1 58 (i + 1))]) (fun a b x => iv_restore x (σ 1 58 (i + 1))) I lw_gX1 lw_gM1
  have c1 : s1 0 58 0 = Int32.ofNat L := (X1 0 0).trans hc
  have e := e_L_law_11 (nI i) σ
  rw [if_neg (by rw [hc]; exact lw_le hL hi), lw_g0 hc (by omega) hL, hv, if_neg (by decide), if_neg (by decide), if_neg (by decide), if_neg (by decide), if_neg (by decide), if_neg (by decide), if_neg (by decide), if_neg (by decide), if_neg (by decide), if_neg (by decide), if_neg (by decide), if_neg (by decide), if_neg (by decide), if_neg (by decide), if_neg (by decide), if_neg (by decide), if_neg (by decide), if_neg (by decide), if_neg (by decide), if_neg (by decide), if_neg (by decide), if_pos (by decide), lw_g1 hc h1 hL, q1, q_bI, lw_g1 c1 h1 hL, X1 1 (i + 1), q2, q_bI, if_pos rfl] at e
  exact ⟨s2, e, I2, X2⟩
set_option maxRecDepth 100000 in
set_option maxHeartbeats 4000000 in
theorem lw_c22 {L i : Nat} (hL : L ≤ 3072) (hi : i + 6 ≤ L) {σ : mx_S} (hc : σ 0 58 0 = Int32.ofNat L) (hv : (σ 1 58 i) &&& 31 = nI 22) (I : INV σ σ) : ∃ s2, mx_H 191 11 [some (mx_R 0 58), some (mx_R 0 28), some (mx_R 0 39), some (mx_I (nI i))] σ = mx_H 191 11 [some (mx_R 0 58), some (mx_R 0 28), some (mx_R 0 39), some (mx_I (nI i + 6))] s2 ∧ INV s2 s2 ∧ (∀ k j, s2 k 58 j = σ k 58 j) := by
  have h1 : i + 1 < L := by omega
  obtain ⟨v, s1, s2, q1, q2, I2, X1, X2⟩ := lw_both (as := [mx_I (σ 1 58 (i + 1))]) (fun a b x => iv_kind x (σ 1 58 (i + 1))) I lw_gX1 lw_gM1
  have c1 : s1 0 58 0 = Int32.ofNat L := (X1 0 0).trans hc
  have e := e_L_law_11 (nI i) σ
  rw [if_neg (by rw [hc]; exact lw_le hL hi), lw_g0 hc (by omega) hL, hv, if_neg (by decide), if_neg (by decide), if_neg (by decide), if_neg (by decide), if_neg (by decide), if_neg (by decide), if_neg (by decide), if_neg (by decide), if_neg (by decide), if_neg (by decide), if_neg (by decide), if_neg (by decide), if_neg (by decide), if_neg (by decide), if_neg (by decide), if_neg (by decide), if_neg (by decide), if_neg (by decide), if_neg (by decide), if_neg (by decide), if_neg (by decide), if_neg (by decide), if_pos (by decide), lw_g1 hc h1 hL, q1, q_bI, lw_g1 c1 h1 hL, X1 1 (i + 1), q2, q_bI, if_pos rfl] at e
  exact ⟨s2, e, I2, X2⟩
set_option maxRecDepth 100000 in
set_option maxHeartbeats 4000000 in
theorem lw_c23 {L i : Nat} (hL : L ≤ 3072) (hi : i + 6 ≤ L) {σ : mx_S} (hc : σ 0 58 0 = Int32.ofNat L) (hv : (σ 1 58 i) &&& 31 = nI 23) (I : INV σ σ) : ∃ s2, mx_H 191 11 [some (mx_R 0 58), some (mx_R 0 28), some (mx_R 0 39), some (mx_I (nI i))] σ = mx_H 191 11 [some (mx_R 0 58), some (mx_R 0 28), some (mx_R 0 39), some (mx_I (nI i + 6))] s2 ∧ INV s2 s2 ∧ (∀ k j, s2 k 58 j = σ k 58 j) := by
  have h1 : i + 1 < L := by omega
  have h2 : i + 2 < L := by omega
  obtain ⟨v, s1, s2, q1, q2, I2, X1, X2⟩ := lw_both (as := [mx_I (σ 1 58 (i + 1)), mx_I (σ 1 58 (i + 2))]) (fun a b x => iv_as x (σ 1 58 (i + 1)) (σ 1 58 (i + 2))) I lw_gX2 lw_gM2
  have c1 : s1 0 58 0 = Int32.ofNat L := (X1 0 0).trans hc
  have e := e_L_law_11 (nI i) σ
  rw [if_neg (by rw [hc]; exact lw_le hL hi), lw_g0 hc (by omega) hL, hv, if_neg (by decide), if_neg (by decide), if_neg (by decide), if_neg (by decide), if_neg (by decide), if_neg (by decide), if_neg (by decide), if_neg (by decide), if_neg (by decide), if_neg (by decide), if_neg (by decide), if_neg (by decide), if_neg (by decide), if_neg (by decide), if_neg (by decide), if_neg (by decide), if_neg (by decide), if_neg (by decide), if_neg (by decide), if_neg (by decide), if_neg (by decide), if_neg (by decide), if_neg (by decide), if_pos (by decide), lw_g1 hc h1 hL, lw_g2 hc h2 hL, q1, q_bI, lw_g1 c1 h1 hL, lw_g2 c1 h2 hL, X1 1 (i + 1), X1 1 (i + 2), q2, q_bI, if_pos rfl] at e
  exact ⟨s2, e, I2, X2⟩
set_option maxRecDepth 100000 in
set_option maxHeartbeats 4000000 in
theorem lw_c24 {L i : Nat} (hL : L ≤ 3072) (hi : i + 6 ≤ L) {σ : mx_S} (hc : σ 0 58 0 = Int32.ofNat L) (hv : (σ 1 58 i) &&& 31 = nI 24) (I : INV σ σ) : ∃ s2, mx_H 191 11 [some (mx_R 0 58), some (mx_R 0 28), some (mx_R 0 39), some (mx_I (nI i))] σ = mx_H 191 11 [some (mx_R 0 58), some (mx_R 0 28), some (mx_R 0 39), some (mx_I (nI i + 6))] s2 ∧ INV s2 s2 ∧ (∀ k j, s2 k 58 j = σ k 58 j) := by
  have h1 : i + 1 < L := by omega
  have h2 : i + 2 < L := by omega
  obtain ⟨v, s1, s2, q1, q2, I2, X1, X2⟩ := lw_both (as := [mx_I (σ 1 58 (i + 1)), mx_I (σ 1 58 (i + 2))]) (fun a b x => iv_ask x (σ 1 58 (i + 1)) (σ 1 58 (i + 2))) I lw_gX2 lw_gM2
  have c1 : s1 0 58 0 = Int32.ofNat L := (X1 0 0).trans hc
  have e := e_L_law_11 (nI i) σ
  rw [if_neg (by rw [hc]; exact lw_le hL hi), lw_g0 hc (by omega) hL, hv, if_neg (by decide), if_neg (by decide), if_neg (by decide), if_neg (by decide), if_neg (by decide), if_neg (by decide), if_neg (by decide), if_neg (by decide), if_neg (by decide), if_neg (by decide), if_neg (by decide), if_neg (by decide), if_neg (by decide), if_neg (by decide), if_neg (by decide), if_neg (by decide), if_neg (by decide), if_neg (by decide), if_neg (by decide), if_neg (by decide), if_neg (by decide), if_neg (by decide), if_neg (by decide), if_neg (by decide), if_pos (by decide), lw_g1 hc h1 hL, lw_g2 hc h2 hL, q1, q_bI, lw_g1 c1 h1 hL, lw_g2 c1 h2 hL, X1 1 (i + 1), X1 1 (i + 2), q2, q_bI, if_pos rfl] at e
  exact ⟨s2, e, I2, X2⟩
set_option maxRecDepth 100000 in
set_option maxHeartbeats 4000000 in
theorem lw_c25 {L i : Nat} (hL : L ≤ 3072) (hi : i + 6 ≤ L) {σ : mx_S} (hc : σ 0 58 0 = Int32.ofNat L) (hv : (σ 1 58 i) &&& 31 = nI 25) (I : INV σ σ) : ∃ s2, mx_H 191 11 [some (mx_R 0 58), some (mx_R 0 28), some (mx_R 0 39), some (mx_I (nI i))] σ = mx_H 191 11 [some (mx_R 0 58), some (mx_R 0 28), some (mx_R 0 39), some (mx_I (nI i + 6))] s2 ∧ INV s2 s2 ∧ (∀ k j, s2 k 58 j = σ k 58 j) := by
  have h1 : i + 1 < L := by omega
  obtain ⟨v, s1, s2, q1, q2, I2, X1, X2⟩ := lw_both (as := [mx_I (σ 1 58 (i + 1))]) (fun a b x => iv_trace x (σ 1 58 (i + 1))) I lw_gX1 lw_gM1
  have c1 : s1 0 58 0 = Int32.ofNat L := (X1 0 0).trans hc
  have e := e_L_law_11 (nI i) σ
  rw [if_neg (by rw [hc]; exact lw_le hL hi), lw_g0 hc (by omega) hL, hv, if_neg (by decide), if_neg (by decide), if_neg (by decide), if_neg (by decide), if_neg (by decide), if_neg (by decide), if_neg (by decide), if_neg (by decide), if_neg (by decide), if_neg (by decide), if_neg (by decide), if_neg (by decide), if_neg (by decide), if_neg (by decide), if_neg (by decide), if_neg (by decide), if_neg (by decide), if_neg (by decide), if_neg (by decide), if_neg (by decide), if_neg (by decide), if_neg (by decide), if_neg (by decide), if_neg (by decide), if_neg (by decide), if_pos (by decide), lw_g1 hc h1 hL, q1, q_bI, lw_g1 c1 h1 hL, X1 1 (i + 1), q2, q_bI, if_pos rfl] at e
  exact ⟨s2, e, I2, X2⟩
set_option maxRecDepth 100000 in
set_option maxHeartbeats 4000000 in
theorem lw_c26 {L i : Nat} (hL : L ≤ 3072) (hi : i + 6 ≤ L) {σ : mx_S} (hc : σ 0 58 0 = Int32.ofNat L) (hv : (σ 1 58 i) &&& 31 = nI 26) (I : INV σ σ) : ∃ s2, mx_H 191 11 [some (mx_R 0 58), some (mx_R 0 28), some (mx_R 0 39), some (mx_I (nI i))] σ = mx_H 191 11 [some (mx_R 0 58), some (mx_R 0 28), some (mx_R 0 39), some (mx_I (nI i + 6))] s2 ∧ INV s2 s2 ∧ (∀ k j, s2 k 58 j = σ k 58 j) := by
  have h1 : i + 1 < L := by omega
  obtain ⟨v, s1, s2, q1, q2, I2, X1, X2⟩ := lw_both (as := [mx_I (σ 1 58 (i + 1))]) (fun a b x => iv_count x (σ 1 58 (i + 1))) I lw_gX1 lw_gM1
  have c1 : s1 0 58 0 = Int32.ofNat L := (X1 0 0).trans hc
  have e := e_L_law_11 (nI i) σ
  rw [if_neg (by rw [hc]; exact lw_le hL hi), lw_g0 hc (by omega) hL, hv, if_neg (by decide), if_neg (by decide), if_neg (by decide), if_neg (by decide), if_neg (by decide), if_neg (by decide), if_neg (by decide), if_neg (by decide), if_neg (by decide), if_neg (by decide), if_neg (by decide), if_neg (by decide), if_neg (by decide), if_neg (by decide), if_neg (by decide), if_neg (by decide), if_neg (by decide), if_neg (by decide), if_neg (by decide), if_neg (by decide), if_neg (by decide), if_neg (by decide), if_neg (by decide), if_neg (by decide), if_neg (by decide), if_neg (by decide), if_pos (by decide), lw_g1 hc h1 hL, q1, q_bI, lw_g1 c1 h1 hL, X1 1 (i + 1), q2, q_bI, if_pos rfl] at e
  exact ⟨s2, e, I2, X2⟩
set_option maxRecDepth 100000 in
set_option maxHeartbeats 4000000 in
theorem lw_c27 {L i : Nat} (hL : L ≤ 3072) (hi : i + 6 ≤ L) {σ : mx_S} (hc : σ 0 58 0 = Int32.ofNat L) (hv : (σ 1 58 i) &&& 31 = nI 27) (I : INV σ σ) : ∃ s2, mx_H 191 11 [some (mx_R 0 58), some (mx_R 0 28), some (mx_R 0 39), some (mx_I (nI i))] σ = mx_H 191 11 [some (mx_R 0 58), some (mx_R 0 28), some (mx_R 0 39), some (mx_I (nI i + 6))] s2 ∧ INV s2 s2 ∧ (∀ k j, s2 k 58 j = σ k 58 j) := by
  obtain ⟨v, s1, s2, q1, q2, I2, X1, X2⟩ := lw_both (as := []) (fun a b x => iv_status x) I lw_gX0 lw_gM0
  have c1 : s1 0 58 0 = Int32.ofNat L := (X1 0 0).trans hc
  have e := e_L_law_11 (nI i) σ
  rw [if_neg (by rw [hc]; exact lw_le hL hi), lw_g0 hc (by omega) hL, hv, if_neg (by decide), if_neg (by decide), if_neg (by decide), if_neg (by decide), if_neg (by decide), if_neg (by decide), if_neg (by decide), if_neg (by decide), if_neg (by decide), if_neg (by decide), if_neg (by decide), if_neg (by decide), if_neg (by decide), if_neg (by decide), if_neg (by decide), if_neg (by decide), if_neg (by decide), if_neg (by decide), if_neg (by decide), if_neg (by decide), if_neg (by decide), if_neg (by decide), if_neg (by decide), if_neg (by decide), if_neg (by decide), if_neg (by decide), if_neg (by decide), if_pos (by decide), q1, q_bI, q2, q_bI, if_pos rfl] at e
  exact ⟨s2, e, I2, X2⟩
set_option maxRecDepth 100000 in
set_option maxHeartbeats 4000000 in
theorem lw_cd {L i : Nat} (hL : L ≤ 3072) (hi : i + 6 ≤ L) {σ : mx_S} (hc : σ 0 58 0 = Int32.ofNat L) {w : Nat} (hw : 28 ≤ w) (hw2 : w < 32) (hv : (σ 1 58 i) &&& 31 = nI w) (I : INV σ σ) : ∃ s2, mx_H 191 11 [some (mx_R 0 58), some (mx_R 0 28), some (mx_R 0 39), some (mx_I (nI i))] σ = mx_H 191 11 [some (mx_R 0 58), some (mx_R 0 28), some (mx_R 0 39), some (mx_I (nI i + 6))] s2 ∧ INV s2 s2 ∧ (∀ k j, s2 k 58 j = σ k 58 j) := by
  have e := e_L_law_11 (nI i) σ
  rw [if_neg (by rw [hc]; exact lw_le hL hi), lw_g0 hc (by omega) hL, hv, if_neg (lw_ne (by omega) (by omega)), if_neg (lw_ne (by omega) (by omega)), if_neg (lw_ne (by omega) (by omega)), if_neg (lw_ne (by omega) (by omega)), if_neg (lw_ne (by omega) (by omega)), if_neg (lw_ne (by omega) (by omega)), if_neg (lw_ne (by omega) (by omega)), if_neg (lw_ne (by omega) (by omega)), if_neg (lw_ne (by omega) (by omega)), if_neg (lw_ne (by omega) (by omega)), if_neg (lw_ne (by omega) (by omega)), if_neg (lw_ne (by omega) (by omega)), if_neg (lw_ne (by omega) (by omega)), if_neg (lw_ne (by omega) (by omega)), if_neg (lw_ne (by omega) (by omega)), if_neg (lw_ne (by omega) (by omega)), if_neg (lw_ne (by omega) (by omega)), if_neg (lw_ne (by omega) (by omega)), if_neg (lw_ne (by omega) (by omega)), if_neg (lw_ne (by omega) (by omega)), if_neg (lw_ne (by omega) (by omega)), if_neg (lw_ne (by omega) (by omega)), if_neg (lw_ne (by omega) (by omega)), if_neg (lw_ne (by omega) (by omega)), if_neg (lw_ne (by omega) (by omega)), if_neg (lw_ne (by omega) (by omega)), if_neg (lw_ne (by omega) (by omega)), if_neg (lw_ne (by omega) (by omega))] at e
  exact ⟨σ, e, I, fun _ _ => rfl⟩
theorem lw_H {L : Nat} (hL : L ≤ 3072) : ∀ (d i : Nat) (σ : mx_S), i ≤ L + 6 → L < i + 6 * d + 6 → σ 0 58 0 = Int32.ofNat L → INV σ σ → ∃ s2, mx_H 191 11 [some (mx_R 0 58), some (mx_R 0 28), some (mx_R 0 39), some (mx_I (nI i))] σ = some (some (mx_I 1), s2) := by
  intro d
  induction d with
  | zero =>
    intro i σ hi hd hc I
    have e := e_L_law_11 (nI i) σ
    rw [if_pos (by rw [hc]; exact lw_gt hL (by omega) hi)] at e
    exact ⟨_, e⟩
  | succ d ih =>
    intro i σ hi hd hc I
    rcases Nat.lt_or_ge L (i + 6) with q | q
    · have e := e_L_law_11 (nI i) σ
      rw [if_pos (by rw [hc]; exact lw_gt hL (by omega) hi)] at e
      exact ⟨_, e⟩
    · obtain ⟨w, hw, hv⟩ := pk_andE (σ 1 58 i) (m := 31) 5 (by decide)
      have go : ∃ s2, mx_H 191 11 [some (mx_R 0 58), some (mx_R 0 28), some (mx_R 0 39), some (mx_I (nI i))] σ = mx_H 191 11 [some (mx_R 0 58), some (mx_R 0 28), some (mx_R 0 39), some (mx_I (nI i + 6))] s2 ∧ INV s2 s2 ∧ (∀ k j, s2 k 58 j = σ k 58 j) := by
        rcases Nat.lt_or_ge w 28 with h28 | h28
        · rcases (show w = 0 ∨ w = 1 ∨ w = 2 ∨ w = 3 ∨ w = 4 ∨ w = 5 ∨ w = 6 ∨ w = 7 ∨ w = 8 ∨ w = 9 ∨ w = 10 ∨ w = 11 ∨ w = 12 ∨ w = 13 ∨ w = 14 ∨ w = 15 ∨ w = 16 ∨ w = 17 ∨ w = 18 ∨ w = 19 ∨ w = 20 ∨ w = 21 ∨ w = 22 ∨ w = 23 ∨ w = 24 ∨ w = 25 ∨ w = 26 ∨ w = 27 by omega) with rfl | rfl | rfl | rfl | rfl | rfl | rfl | rfl | rfl | rfl | rfl | rfl | rfl | rfl | rfl | rfl | rfl | rfl | rfl | rfl | rfl | rfl | rfl | rfl | rfl | rfl | rfl | rfl
          · exact lw_c0 hL q hc hv I
          · exact lw_c1 hL q hc hv I
          · exact lw_c2 hL q hc hv I
          · exact lw_c3 hL q hc hv I
          · exact lw_c4 hL q hc hv I
          · exact lw_c5 hL q hc hv I
          · exact lw_c6 hL q hc hv I
          · exact lw_c7 hL q hc hv I
          · exact lw_c8 hL q hc hv I
          · exact lw_c9 hL q hc hv I
          · exact lw_c10 hL q hc hv I
          · exact lw_c11 hL q hc hv I
          · exact lw_c12 hL q hc hv I
          · exact lw_c13 hL q hc hv I
          · exact lw_c14 hL q hc hv I
          · exact lw_c15 hL q hc hv I
          · exact lw_c16 hL q hc hv I
          · exact lw_c17 hL q hc hv I
          · exact lw_c18 hL q hc hv I
          · exact lw_c19 hL q hc hv I
          · exact lw_c20 hL q hc hv I
          · exact lw_c21 hL q hc hv I
          · exact lw_c22 hL q hc hv I
          · exact lw_c23 hL q hc hv I
          · exact lw_c24 hL q hc hv I
          · exact lw_c25 hL q hc hv I
          · exact lw_c26 hL q hc hv I
          · exact lw_c27 hL q hc hv I
        · exact lw_cd hL q hc h28 hw hv I
      obtain ⟨s2, e, I2, X2⟩ := go
      obtain ⟨s3, e3⟩ := ih (i + 6) s2 (by omega) (by omega) ((X2 0 0).trans hc) I2
      rw [show nI i + 6 = nI (i + 6) from nI_add i 6] at e
      exact ⟨s3, e.trans e3⟩
