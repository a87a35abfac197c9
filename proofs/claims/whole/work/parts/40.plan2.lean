/-- one more picture -/
theorem PI.pic {h : Nat → Nat} {a b : mx_S} (p : PI h a b) (hr : h 4 < 8) {u v : Nat} (u1 : u < h 2) (v1 : 1 ≤ v) (v2 : v ≤ 60) : PI (uf (uf (uf h (40 + 2 * h 4) u) (40 + 2 * h 4 + 1) v) 4 (h 4 + 1)) (mx_up (mx_up (mx_up (mx_up a 1 6 (h 4) (nI u)) 1 7 (h 4) (nI v)) 1 8 (h 4) (nI (2 + v / 10))) 1 1 8 (nI (h 4 + 1))) (mx_up (mx_up (mx_up b 0 44 (40 + 2 * h 4) (nI u)) 0 44 (40 + 2 * h 4 + 1) (nI v)) 0 44 4 (nI (h 4 + 1))) := by
  have hb := p.g
  have hx := p.x
  have eo : ∀ j, j ≠ 4 → j ≠ 40 + 2 * h 4 → j ≠ 40 + 2 * h 4 + 1 → uf (uf (uf h (40 + 2 * h 4) u) (40 + 2 * h 4 + 1) v) 4 (h 4 + 1) j = h j := fun j q1 q2 q3 => by rw [uf_o q1, uf_o q3, uf_o q2]
  have e4 : uf (uf (uf h (40 + 2 * h 4) u) (40 + 2 * h 4 + 1) v) 4 (h 4 + 1) 4 = h 4 + 1 := uf_s
  have e7 : uf (uf (uf h (40 + 2 * h 4) u) (40 + 2 * h 4 + 1) v) 4 (h 4 + 1) (40 + 2 * h 4) = u := by rw [uf_o (by omega), uf_o (by omega), uf_s]
  have e8 : uf (uf (uf h (40 + 2 * h 4) u) (40 + 2 * h 4 + 1) v) 4 (h 4 + 1) (41 + 2 * h 4) = v := by rw [uf_o (by omega), show 41 + 2 * h 4 = 40 + 2 * h 4 + 1 by omega, uf_s]
  generalize hh : uf (uf (uf h (40 + 2 * h 4) u) (40 + 2 * h 4 + 1) v) 4 (h 4 + 1) = h' at eo e4 e7 e8
  have el : ∀ j, j < 40 → j ≠ 4 → h' j = h j := fun j q1 q2 => eo j q2 (by omega) (by omega)
  have eg : ∀ j, 56 ≤ j → h' j = h j := fun j q1 => eo j (by omega) (by omega) (by omega)
  refine ⟨?_, hh ▸ ((p.m.up _ u).up _ v).up 4 (h 4 + 1), ?_⟩
  · refine ⟨?_, ?_, ?_, ?_, ?_, ?_, ?_, fun i hi => ?_, fun i hi => ?_, fun i hi => ?_, fun i hi => ?_⟩
    · rw [el 0 (by omega) (by omega), ← hx.f0]; simp [q_up]
    · rw [el 1 (by omega) (by omega), ← hx.f1]; simp [q_up]
    · rw [el 2 (by omega) (by omega), ← hx.f2]; simp [q_up]
    · rw [el 3 (by omega) (by omega), ← hx.f4]; simp [q_up]
    · rw [e4]; simp [q_up]
    · rw [el 5 (by omega) (by omega), ← hx.f12]; simp [q_up]
    · rw [el 6 (by omega) (by omega), ← hx.f17]; simp [q_up]
    · rw [el 2 (by omega) (by omega)] at hi
      have := hb.r2
      rw [el _ (by omega) (by omega), ← hx.rm i hi]; simp [q_up]
    · rw [el 3 (by omega) (by omega)] at hi
      have := hb.r3
      rw [el _ (by omega) (by omega), el _ (by omega) (by omega), el _ (by omega) (by omega), ← (hx.dr i hi).1, ← (hx.dr i hi).2.1, ← (hx.dr i hi).2.2]; simp [q_up]
    · by_cases e : i = h 4
      · subst e
        rw [mt0, e7, e8]; simp [q_up]
      · have hi' : i < h 4 := by omega
        rw [mt0, eo _ (by omega) (by omega) (by omega), eo _ (by omega) (by omega) (by omega), ← (hx.pc i hi').1, ← (hx.pc i hi').2.1]
        rw [show nI (2 + h (41 + 2 * i) / 10) = a 1 8 i from (hx.pc i hi').2.2.symm]; simp [q_up, e]
    · rw [el 5 (by omega) (by omega)] at hi
      rw [lw0, eg _ (by omega), eg _ (by omega), eg _ (by omega), eg _ (by omega), ← (hx.gr i hi).1, ← (hx.gr i hi).2.1, ← (hx.gr i hi).2.2.2, show nI (h (58 + 4 * i)) = a 1 11 i from (hx.gr i hi).2.2.1.symm]; simp [q_up]
  · refine ⟨?_, ?_, ?_, ?_, ?_, ?_, ?_, fun i hi => ?_, fun i hi => ?_, fun i hi => ?_, fun i hi => ?_, ?_⟩
    · rw [el _ (by omega) (by omega)]; exact hb.r0
    · rw [el _ (by omega) (by omega)]; exact hb.r1
    · rw [el _ (by omega) (by omega)]; exact hb.r2
    · rw [el _ (by omega) (by omega)]; exact hb.r3
    · omega
    · rw [el _ (by omega) (by omega)]; exact hb.r5
    · rw [el _ (by omega) (by omega)]; exact hb.r6
    · rw [el 2 (by omega) (by omega)] at hi
      have := hb.r2
      rw [el _ (by omega) (by omega)]; exact hb.rm i hi
    · rw [el 3 (by omega) (by omega)] at hi
      have := hb.r3
      rw [el 2 (by omega) (by omega), el _ (by omega) (by omega), el _ (by omega) (by omega), el _ (by omega) (by omega)]; exact hb.dr i hi
    · rw [el 2 (by omega) (by omega)]
      by_cases e : i = h 4
      · subst e; rw [e7, e8]; exact ⟨u1, v1, v2⟩
      · rw [eo _ (by omega) (by omega) (by omega), eo _ (by omega) (by omega) (by omega)]; exact hb.pc i (by omega)
    · rw [el 5 (by omega) (by omega)] at hi
      rw [eg _ (by omega), eg _ (by omega), eg _ (by omega), eg _ (by omega)]; exact hb.gr i hi
    · rw [el 5 (by omega) (by omega), sm_c (h := h) (h 5) (fun g _ => eg _ (by omega)), el 6 (by omega) (by omega)]; exact hb.su
/-- one more group -/
theorem PI.grp {h : Nat → Nat} {a b : mx_S} (p : PI h a b) (hr : h 5 < 6) {u v w z : Nat} (u1 : 1 ≤ u) (u2 : u ≤ 20) (u3 : h 6 + u ≤ 30) (v1 : v ≤ 60) (w1 : w ≤ 2) (z1 : z ≤ 20) : PI (uf (uf (uf (uf (uf (uf h (56 + 4 * h 5) u) (56 + 4 * h 5 + 1) v) (56 + 4 * h 5 + 2) w) (56 + 4 * h 5 + 3) z) 5 (h 5 + 1)) 6 (h 6 + u)) (mx_up (mx_up (mx_up (mx_up (mx_up (mx_up a 1 9 (h 5) (nI u)) 1 10 (h 5) (nI v)) 1 11 (h 5) (nI w)) 1 12 (h 5) (nI z)) 1 1 12 (nI (h 5 + 1))) 1 1 17 (nI (h 6 + u))) (mx_up (mx_up (mx_up (mx_up (mx_up (mx_up b 0 44 (56 + 4 * h 5) (nI u)) 0 44 (56 + 4 * h 5 + 1) (nI v)) 0 44 (56 + 4 * h 5 + 2) (nI w)) 0 44 (56 + 4 * h 5 + 3) (nI z)) 0 44 5 (nI (h 5 + 1))) 0 44 6 (nI (h 6 + u))) := by
  have hb := p.g
  have hx := p.x
  have hm := (((((p.m.up (56 + 4 * h 5) u).up (56 + 4 * h 5 + 1) v).up (56 + 4 * h 5 + 2) w).up (56 + 4 * h 5 + 3) z).up 5 (h 5 + 1)).up 6 (h 6 + u)
  generalize hh : uf (uf (uf (uf (uf (uf h (56 + 4 * h 5) u) (56 + 4 * h 5 + 1) v) (56 + 4 * h 5 + 2) w) (56 + 4 * h 5 + 3) z) 5 (h 5 + 1)) 6 (h 6 + u) = h' at hm ⊢
  have eo : ∀ j, j ≠ 5 → j ≠ 6 → (j < 56 + 4 * h 5 ∨ 56 + 4 * h 5 + 3 < j) → h' j = h j := fun j q1 q2 q3 => by rw [← hh, uf_o q2, uf_o q1, uf_o (by omega), uf_o (by omega), uf_o (by omega), uf_o (by omega)]
  have e5 : h' 5 = h 5 + 1 := by rw [← hh, uf_o (by omega), uf_s]
  have e6 : h' 6 = h 6 + u := by rw [← hh, uf_s]
  have e7 : h' (56 + 4 * h 5) = u := by rw [← hh, uf_o (by omega), uf_o (by omega), uf_o (by omega), uf_o (by omega), uf_o (by omega), uf_s]
  have e8 : h' (57 + 4 * h 5) = v := by rw [← hh, uf_o (by omega), uf_o (by omega), uf_o (by omega), uf_o (by omega), show 57 + 4 * h 5 = 56 + 4 * h 5 + 1 by omega, uf_s]
  have e9 : h' (58 + 4 * h 5) = w := by rw [← hh, uf_o (by omega), uf_o (by omega), uf_o (by omega), show 58 + 4 * h 5 = 56 + 4 * h 5 + 2 by omega, uf_s]
  have e10 : h' (59 + 4 * h 5) = z := by rw [← hh, uf_o (by omega), uf_o (by omega), show 59 + 4 * h 5 = 56 + 4 * h 5 + 3 by omega, uf_s]
  have el : ∀ j, j < 56 → j ≠ 5 → j ≠ 6 → h' j = h j := fun j q1 q2 q3 => eo j q2 q3 (by omega)
  refine ⟨?_, hm, ?_⟩
  · refine ⟨?_, ?_, ?_, ?_, ?_, ?_, ?_, fun i hi => ?_, fun i hi => ?_, fun i hi => ?_, fun i hi => ?_⟩
    · rw [el 0 (by omega) (by omega) (by omega), ← hx.f0]; simp [q_up]
    · rw [el 1 (by omega) (by omega) (by omega), ← hx.f1]; simp [q_up]
    · rw [el 2 (by omega) (by omega) (by omega), ← hx.f2]; simp [q_up]
    · rw [el 3 (by omega) (by omega) (by omega), ← hx.f4]; simp [q_up]
    · rw [el 4 (by omega) (by omega) (by omega), ← hx.f8]; simp [q_up]
    · rw [e5]; simp [q_up]
    · rw [e6]; simp [q_up]
    · rw [el 2 (by omega) (by omega) (by omega)] at hi
      have := hb.r2
      rw [el _ (by omega) (by omega) (by omega), ← hx.rm i hi]; simp [q_up]
    · rw [el 3 (by omega) (by omega) (by omega)] at hi
      have := hb.r3
      rw [el _ (by omega) (by omega) (by omega), el _ (by omega) (by omega) (by omega), el _ (by omega) (by omega) (by omega), ← (hx.dr i hi).1, ← (hx.dr i hi).2.1, ← (hx.dr i hi).2.2]; simp [q_up]
    · rw [el 4 (by omega) (by omega) (by omega)] at hi
      have := hb.r4
      rw [mt0, el _ (by omega) (by omega) (by omega), el _ (by omega) (by omega) (by omega), ← (hx.pc i hi).1, ← (hx.pc i hi).2.1, show nI (2 + h (41 + 2 * i) / 10) = a 1 8 i from (hx.pc i hi).2.2.symm]; simp [q_up]
    · by_cases e : i = h 5
      · subst e
        rw [lw0, e7, e8, e9, e10]; simp [q_up]
      · have hi' : i < h 5 := by omega
        rw [lw0, eo _ (by omega) (by omega) (by omega), eo _ (by omega) (by omega) (by omega), eo _ (by omega) (by omega) (by omega), eo _ (by omega) (by omega) (by omega), ← (hx.gr i hi').1, ← (hx.gr i hi').2.1, ← (hx.gr i hi').2.2.2, show nI (h (58 + 4 * i)) = a 1 11 i from (hx.gr i hi').2.2.1.symm]; simp [q_up, e]
  · refine ⟨?_, ?_, ?_, ?_, ?_, ?_, ?_, fun i hi => ?_, fun i hi => ?_, fun i hi => ?_, fun i hi => ?_, ?_⟩
    · rw [el _ (by omega) (by omega) (by omega)]; exact hb.r0
    · rw [el _ (by omega) (by omega) (by omega)]; exact hb.r1
    · rw [el _ (by omega) (by omega) (by omega)]; exact hb.r2
    · rw [el _ (by omega) (by omega) (by omega)]; exact hb.r3
    · rw [el _ (by omega) (by omega) (by omega)]; exact hb.r4
    · omega
    · omega
    · rw [el 2 (by omega) (by omega) (by omega)] at hi
      have := hb.r2
      rw [el _ (by omega) (by omega) (by omega)]; exact hb.rm i hi
    · rw [el 3 (by omega) (by omega) (by omega)] at hi
      have := hb.r3
      rw [el 2 (by omega) (by omega) (by omega), el _ (by omega) (by omega) (by omega), el _ (by omega) (by omega) (by omega), el _ (by omega) (by omega) (by omega)]; exact hb.dr i hi
    · rw [el 4 (by omega) (by omega) (by omega)] at hi
      have := hb.r4
      rw [el 2 (by omega) (by omega) (by omega), el _ (by omega) (by omega) (by omega), el _ (by omega) (by omega) (by omega)]; exact hb.pc i hi
    · by_cases e : i = h 5
      · subst e; rw [e7, e8, e9, e10]; exact ⟨u1, u2, v1, w1, z1⟩
      · rw [eo _ (by omega) (by omega) (by omega), eo _ (by omega) (by omega) (by omega), eo _ (by omega) (by omega) (by omega), eo _ (by omega) (by omega) (by omega)]; exact hb.gr i (by omega)
    · rw [e5, e6]
      show _ = sm h' (h 5) + h' (56 + 4 * h 5)
      rw [e7, sm_c (h := h) (h 5) (fun g hg => eo _ (by omega) (by omega) (by omega)), hb.su]
