/-! ===== M's far ===== -/
def fv (x : Nat) : Int32 := if x = 1000 then -1000000 else nI x
theorem fv_no {x : Nat} (h : x ≤ 1000) : fv x = -1000000 ↔ x = 1000 := by
  unfold fv
  split
  · rename_i e; exact ⟨fun _ => e, fun _ => rfl⟩
  · rename_i e
    refine ⟨fun q => ?_, fun q => absurd q e⟩
    rw [q_eq, q_toI (by omega), show (-1000000 : Int32).toInt = -1000000 from rfl] at q
    omega
theorem fv_is {x y : Nat} (h : x ≤ 1000) (hy : y < 1000) : fv x = nI y ↔ x = y := by
  unfold fv
  split
  · rename_i e
    refine ⟨fun q => ?_, fun q => by omega⟩
    rw [q_eq, q_toI (by omega), show (-1000000 : Int32).toInt = -1000000 from rfl] at q
    omega
  · rw [q_eqN (by omega) (by omega)]
theorem fv_lt {x : Nat} (h : x < 1000) : fv x = nI x := if_neg (by omega)
theorem q_d6 {α : Type} {fl f : α} : mx_d fl (6 : Int32) f = f := q_d (n := 6) (by decide) (by decide)
theorem q_rem {x : Nat} (h : x < 1000) : nI x - nI x / 6 * 6 = nI (x % 6) := pk_rem (d := 6) (by omega) (by decide) (by decide)
theorem q_div6 {x : Nat} (h : x < 1000) : nI x / 6 = nI (x / 6) := pk_div (d := 6) (by omega) (by decide) (by decide)
theorem s_leads {h : Nat → Nat} (hb : HB h) {b : mx_S} (hm : MH 43 h b) {d x y : Nat} (hd : d < h 3) (hx : x < 1000) (hy : y < 1000) : mx_sem 140 [mx_R 0 39, mx_I (nI d), mx_I (nI x), mx_I (nI y)] b = some (some (mx_I (if ldr h d x y then 1 else 0)), b) := by
  have h2 := hb.r2
  have h3 := hb.r3
  obtain ⟨d1, d2, d3, d4⟩ := hb.dr d hd
  have m1 := hm (13 + 3 * d) (by omega)
  have m2 := hm (13 + 3 * d + 1) (by omega)
  have m3 := hm (13 + 3 * d + 2) (by omega)
  rw [show 13 + 3 * d + 1 = 14 + 3 * d by omega] at m2
  rw [show 13 + 3 * d + 2 = 15 + 3 * d by omega] at m3
  have e1 : (13 : Int32) + 3 * nI d = nI (13 + 3 * d) := by rw [q_lit, q_lit, q_mul, q_add]
  have e2 : nI (13 + 3 * d) + 1 = nI (14 + 3 * d) := by rw [nI_1, show 13 + 3 * d + 1 = 14 + 3 * d by omega]
  have e3 : nI (13 + 3 * d) + 2 = nI (15 + 3 * d) := by rw [q_lit, q_add, show 13 + 3 * d + 2 = 15 + 3 * d by omega]
  have g1 : ∀ {f : Nat → Option mx_Rt}, mx_g none (nI (13 + 3 * d)) 80 f = f (13 + 3 * d) := q_g (by omega) (by decide)
  have g2 : ∀ {f : Nat → Option mx_Rt}, mx_g none (nI (14 + 3 * d)) 80 f = f (14 + 3 * d) := q_g (by omega) (by decide)
  have g3 : ∀ {f : Nat → Option mx_Rt}, mx_g none (nI (15 + 3 * d)) 80 f = f (15 + 3 * d) := q_g (by omega) (by decide)
  rw [e_M_leads, e1, e2, e3, g1, m1]
  have tail : (mx_g none (nI (15 + 3 * d)) 80 fun j2 => if (b 0 43 j2) = 0 then (mx_g none (nI (13 + 3 * d)) 80 fun j3 => if (b 0 43 j3) = nI y then (mx_g none (nI (14 + 3 * d)) 80 fun j4 => if (b 0 43 j4) = nI x then (some (some (mx_I 1), b)) else (some (some (mx_I 0), b))) else (some (some (mx_I 0), b))) else (some (some (mx_I 0), b))) = some (some (mx_I (if h (15 + 3 * d) = 0 ∧ h (13 + 3 * d) = y ∧ h (14 + 3 * d) = x then 1 else 0)), b) := by
    rw [g3, m3]
    by_cases c0 : h (15 + 3 * d) = 0
    · rw [if_pos (by rw [c0]; rfl), g1, m1]
      by_cases c1 : h (13 + 3 * d) = y
      · rw [if_pos (by rw [c1]), g2, m2]
        by_cases c2 : h (14 + 3 * d) = x
        · rw [if_pos (by rw [c2]), if_pos ⟨c0, c1, c2⟩]
        · rw [if_neg (by rw [q_eqN (by omega) (by omega)]; exact c2), if_neg (fun q => c2 q.2.2)]
      · rw [if_neg (by rw [q_eqN (by omega) (by omega)]; exact c1), if_neg (fun q => c1 q.2.1)]
    · rw [if_neg (by rw [q_lit, q_eqN (by omega) (by decide)]; exact c0), if_neg (fun q => c0 q.1)]
  by_cases c1 : h (13 + 3 * d) = x
  · rw [if_pos (by rw [c1]), g2, m2]
    by_cases c2 : h (14 + 3 * d) = y
    · rw [if_pos (by rw [c2]), if_pos (Or.inl ⟨c1, c2⟩)]
    · rw [if_neg (by rw [q_eqN (by omega) (by omega)]; exact c2), tail]
      congr 3
      by_cases c : h (15 + 3 * d) = 0 ∧ h (13 + 3 * d) = y ∧ h (14 + 3 * d) = x
      · rw [if_pos c, if_pos (Or.inr c)]
      · rw [if_neg c, if_neg (by rintro (q | q); exact c2 q.2; exact c q)]
  · rw [if_neg (by rw [q_eqN (by omega) (by omega)]; exact c1), tail]
    congr 3
    by_cases c : h (15 + 3 * d) = 0 ∧ h (13 + 3 * d) = y ∧ h (14 + 3 * d) = x
    · rw [if_pos c, if_pos (Or.inr c)]
    · rw [if_neg c, if_neg (by rintro (q | q); exact c1 q.1; exact c q)]
def SFM (_k o _j : Nat) : Prop := o = 47
theorem MH.f {h : Nat → Nat} {b b' : mx_S} (x : MH 43 h b) (e : kq SFM b b') : MH 43 h b' := x.k (fun j => e 0 43 j (fun q => by have : (43 : Nat) = 47 := q; omega))
/-- the matrix that far is -/
def MF (G : Nat → Nat → Nat) (b : mx_S) : Prop := ∀ x y, x < 6 → y < 6 → b 0 47 (6 * x + y) = fv (G x y)
/-- one entry, over the first e of doors times rooms -/
def cv (h : Nat → Nat) (G : Nat → Nat → Nat) (A x y : Nat) : Nat → Nat
  | 0 => G x y
  | e + 1 => if cv h G A x y e = 1000 ∧ G x (e % 6) = A - 1 ∧ ldr h (e / 6) (e % 6) y then A else cv h G A x y e
def lvl (h : Nat → Nat) (G : Nat → Nat → Nat) (A x y : Nat) : Nat := if x < h 2 then cv h G A x y (6 * h 3) else G x y
theorem cv_ok (h : Nat → Nat) (G : Nat → Nat → Nat) {A x y : Nat} (hA : 1 ≤ A) (hA2 : A < 1000) : ∀ e, e ≤ 6 * h 3 → (G x y ≠ 1000 → cv h G A x y e = G x y) ∧ (G x y = 1000 → cv h G A x y e = 1000 ∨ (cv h G A x y e = A ∧ ∃ c d, c < 6 ∧ d < h 3 ∧ G x c = A - 1 ∧ ldr h d c y)) ∧ (G x y = 1000 → ∀ c d, c < 6 → 6 * d + c < e → G x c = A - 1 → ldr h d c y → cv h G A x y e = A)
  | 0, _ => ⟨fun _ => rfl, fun q => Or.inl q, fun _ c d _ hlt => by omega⟩
  | e + 1, he => by
    obtain ⟨h1, h2, h3⟩ := cv_ok h G (x := x) (y := y) hA hA2 e (by omega)
    unfold cv
    refine ⟨fun q => ?_, fun q => ?_, fun q c d hc hlt hg hl => ?_⟩
    · rw [h1 q, if_neg (fun z => q z.1)]
    · split
      · rename_i z
        exact Or.inr ⟨rfl, e % 6, e / 6, by omega, by omega, z.2⟩
      · exact h2 q
    · by_cases ee : 6 * d + c = e
      · have e1 : e % 6 = c := by omega
        have e2 : e / 6 = d := by omega
        rw [e1, e2]
        rcases h2 q with z | ⟨z, -⟩
        · rw [if_pos ⟨z, hg, hl⟩]
        · split
          · rfl
          · exact z
      · have := h3 q c d hc (by omega) hg hl
        rw [this, if_neg (by omega)]
def LI (h : Nat → Nat) (A : Nat) (G : Nat → Nat → Nat) : Prop :=
  (∀ x y, G x y ≤ 1000) ∧ (∀ x y, x < h 2 → y < 6 → G x y < 1000 → G x y < A ∧ walk h (G x y) x y) ∧ (∀ k x y, k < A → x < h 2 → y < 6 → walk h k x y → G x y ≤ k)
theorem LI.le {h : Nat → Nat} {A : Nat} {G : Nat → Nat → Nat} (x_ : LI h A G) : ∀ x y, G x y ≤ 1000 := x_.1
theorem LI.so {h : Nat → Nat} {A : Nat} {G : Nat → Nat → Nat} (x_ : LI h A G) : ∀ x y, x < h 2 → y < 6 → G x y < 1000 → G x y < A ∧ walk h (G x y) x y := x_.2.1
theorem LI.co {h : Nat → Nat} {A : Nat} {G : Nat → Nat → Nat} (x_ : LI h A G) : ∀ k x y, k < A → x < h 2 → y < 6 → walk h k x y → G x y ≤ k := x_.2.2
theorem LI_step {h : Nat → Nat} (hb : HB h) {A : Nat} {G : Nat → Nat → Nat} (hA : 1 ≤ A) (hA2 : A < h 2) (i : LI h A G) : LI h (A + 1) (lvl h G A) := by
  have h2 := hb.r2
  have ok : ∀ x y, _ := fun x y => cv_ok h G (x := x) (y := y) hA (by omega) (6 * h 3) (Nat.le_refl _)
  refine ⟨fun x y => ?_, fun x y hx hy hn => ?_, fun k x y hk hx hy w => ?_⟩
  · unfold lvl
    have := i.le x y
    split
    · by_cases q : G x y = 1000
      · rcases (ok x y).2.1 q with z | z <;> omega
      · rw [(ok x y).1 q]; exact this
    · exact this
  · unfold lvl at hn ⊢
    rw [if_pos hx] at hn ⊢
    by_cases q : G x y = 1000
    · rcases (ok x y).2.1 q with z | ⟨z, c, d, hc, hd, hg, hl⟩
      · omega
      · rw [z]
        refine ⟨by omega, ?_⟩
        have := (i.so x c hx hc (by omega)).2
        rw [hg] at this
        rw [show A = (A - 1) + 1 by omega]
        exact ⟨c, this, d, hd, hl⟩
    · rw [(ok x y).1 q] at hn ⊢
      have := i.so x y hx hy hn
      exact ⟨by omega, this.2⟩
  · unfold lvl
    rw [if_pos hx]
    have le := i.le x y
    by_cases q : G x y = 1000
    · by_cases ek : k < A
      · have := i.co k x y ek hx hy w
        omega
      · have ek : k = A := by omega
        subst ek
        rw [show k = (k - 1) + 1 by omega] at w
        obtain ⟨c, v, l⟩ := w
        have hc := (lead_ok hb l).1
        have g1 := i.co (k - 1) x c (by omega) hx (by omega) v
        have g2 := (i.so x c hx (by omega) (by omega)).2
        by_cases g3 : G x c = k - 1
        · obtain ⟨d, hd, hl⟩ := l
          have := (ok x y).2.2 q c d (by omega) (by omega) g3 hl
          omega
        · have := i.co (G x c + 1) x y (by omega) hx hy ⟨c, g2, l⟩
          omega
    · rw [(ok x y).1 q]
      by_cases ek : k < A
      · exact i.co k x y ek hx hy w
      · have := (i.so x y hx hy (by omega)).1
        omega
theorem LI_end {h : Nat → Nat} (hb : HB h) {G : Nat → Nat → Nat} (i : LI h (h 2) G) : DS h G := by
  have h2 := hb.r2
  intro x y hx hy
  refine ⟨i.le x y, fun q => (i.so x y hx (by omega) q).2, fun k w => ?_⟩
  obtain ⟨j, hj, hj2, v⟩ := walk_short hb hx w
  have := i.co j x y hj2 hx (by omega) v
  omega
/-- within a level: entries before p are new -/
def cur (h : Nat → Nat) (G : Nat → Nat → Nat) (A p x y : Nat) : Nat := if 6 * x + y < p then lvl h G A x y else G x y
theorem cur_is {h : Nat → Nat} (hb : HB h) {G : Nat → Nat → Nat} {A : Nat} (hA : 1 ≤ A) (hA2 : A < h 2) (i : LI h A G) (p x y : Nat) : cur h G A p x y ≤ 1000 ∧ (cur h G A p x y = A - 1 ↔ G x y = A - 1) := by
  have h2 := hb.r2
  have ok := cv_ok h G (x := x) (y := y) hA (show A < 1000 by omega) (6 * h 3) (Nat.le_refl _)
  have := i.le x y
  unfold cur lvl
  split
  · split
    · by_cases q : G x y = 1000
      · rcases ok.2.1 q with z | z <;> omega
      · rw [ok.1 q]; exact ⟨this, Iff.rfl⟩
    · exact ⟨this, Iff.rfl⟩
  · exact ⟨this, Iff.rfl⟩
noncomputable def H46 (n A j e : Nat) (b : mx_S) : Option mx_Rt := mx_H 173 46 [some (mx_R 0 39), some (mx_I (nI n)), some (mx_I (nI A)), some (mx_I (nI j)), some (mx_I (nI (j / 6))), some (mx_I (nI e)), none, none] b
noncomputable def H36 (n A j : Nat) (b : mx_S) : Option mx_Rt := mx_H 173 36 [some (mx_R 0 39), some (mx_I (nI n)), some (mx_I (nI A)), some (mx_I (nI j)), none, none, none, none] b
noncomputable def H30 (n A : Nat) (b : mx_S) : Option mx_Rt := mx_H 173 30 [some (mx_R 0 39), some (mx_I (nI n)), some (mx_I (nI A)), none, none, none, none, none] b
theorem s_lf46 {h : Nat → Nat} (hb : HB h) {G : Nat → Nat → Nat} {A j : Nat} (hA : 1 ≤ A) (hA2 : A < h 2) (i : LI h A G) (hj : j < 36) : ∀ (d e : Nat) (b : mx_S), e + d = 6 * h 3 → MH 43 h b → (∀ x y, x < 6 → y < 6 → b 0 47 (6 * x + y) = fv (if 6 * x + y = j then (if x < h 2 then cv h G A x y e else G x y) else cur h G A j x y)) → ∃ b', H46 (h 2) A j e b = H36 (h 2) A (j + 1) b' ∧ MF (cur h G A (j + 1)) b' ∧ kq SFM b b' := by
  have h2 := hb.r2
  have h3 := hb.r3
  intro d
  induction d with
  | zero =>
    intro e b hd hm hf
    have ee : e = 6 * h 3 := by omega
    subst ee
    refine ⟨b, ?_, ?_, kq_rf⟩
    · unfold H46 H36
      rw [e_M_layFar_46, q_gl (by decide) (by decide), hm 3 (by decide), show (6 : Int32) * nI (h 3) = nI (6 * h 3) by rw [q_lit, q_mul], if_pos ((q_leN (by omega) (by omega)).mpr (Nat.le_refl _)), nI_1]
    · intro x y hx hy
      rw [hf x y hx hy]
      congr 1
      unfold cur
      by_cases c : 6 * x + y = j
      · rw [if_pos c, if_pos (show 6 * x + y < j + 1 by omega)]; rfl
      · rw [if_neg c]
        by_cases c2 : 6 * x + y < j
        · rw [if_pos c2, if_pos (by omega)]
        · rw [if_neg c2, if_neg (by omega)]
  | succ d ih =>
    intro e b hd hm hf
    have hX : H46 (h 2) A j e b = _ := e_M_layFar_46 (nI (h 2)) (nI A) (nI j) (nI (j / 6)) (nI e) b
    rw [q_gl (by decide) (by decide), hm 3 (by decide), show (6 : Int32) * nI (h 3) = nI (6 * h 3) by rw [q_lit, q_mul], if_neg (by rw [q_leN (by omega) (by omega)]; omega)] at hX
    by_cases hxn : j / 6 < h 2
    · rw [if_neg (by rw [q_leN (by omega) (by omega)]; omega), q_d6, q_g hj (by decide)] at hX
      have hjj : 6 * (j / 6) + j % 6 = j := by omega
      have ec := hf (j / 6) (j % 6) (by omega) (by omega)
      rw [hjj, if_pos rfl, if_pos hxn] at ec
      have okc := cv_ok h G (x := j / 6) (y := j % 6) hA (show A < 1000 by omega) e (by omega)
      have lec : cv h G A (j / 6) (j % 6) e ≤ 1000 := by
        have := i.le (j / 6) (j % 6)
        by_cases q : G (j / 6) (j % 6) = 1000
        · rcases okc.2.1 q with z | z <;> omega
        · rw [okc.1 q]; exact this
      -- what the next state must be
      have fin : ∀ b', (∀ k o jj, o ≠ 47 → b' k o jj = b k o jj) → kq SFM b b' → (∀ x y, x < 6 → y < 6 → 6 * x + y ≠ j → b' 0 47 (6 * x + y) = b 0 47 (6 * x + y)) → b' 0 47 j = fv (cv h G A (j / 6) (j % 6) (e + 1)) → H46 (h 2) A j e b = H46 (h 2) A j (e + 1) b' → ∃ b'', H46 (h 2) A j e b = H36 (h 2) A (j + 1) b'' ∧ MF (cur h G A (j + 1)) b'' ∧ kq SFM b b'' := by
        intro b' q1 q2 q3 q4 q5
        obtain ⟨b'', e1, e2, e3⟩ := ih (e + 1) b' (by omega) (hm.f q2) (fun x y hx hy => by
          by_cases c : 6 * x + y = j
          · have cx : x = j / 6 := by omega
            have cy : y = j % 6 := by omega
            rw [if_pos c, c, cx, cy, if_pos hxn, q4]
          · rw [q3 x y hx hy c, hf x y hx hy, if_neg c, if_neg c])
        exact ⟨b'', q5.trans e1, e2, kq_tr q2 e3⟩
      have self : b 0 47 j = fv (cv h G A (j / 6) (j % 6) (e + 1)) → H46 (h 2) A j e b = H46 (h 2) A j (e + 1) (mx_up b 0 47 j (b 0 47 j)) → ∃ b'', H46 (h 2) A j e b = H36 (h 2) A (j + 1) b'' ∧ MF (cur h G A (j + 1)) b'' ∧ kq SFM b b'' := by
        intro q1 q2
        rw [q_ui rfl] at q2
        exact fin b (fun _ _ _ _ => rfl) kq_rf (fun _ _ _ _ _ => rfl) q1 q2
      have e6 : (6 : Int32) * nI (j / 6) + (nI e - nI e / 6 * 6) = nI (6 * (j / 6) + e % 6) := by rw [q_rem (by omega), q_lit, q_mul, q_add]
      have em : nI A - 1 = nI (A - 1) := by rw [q_lit, q_sub hA]
      rw [ec] at hX
      by_cases c1 : cv h G A (j / 6) (j % 6) e = 1000
      · rw [if_pos ((fv_no lec).mpr c1), e6, q_g (by omega) (by decide), em] at hX
        have er := hf (j / 6) (e % 6) (by omega) (by omega)
        have cu := cur_is hb hA hA2 i j (j / 6) (e % 6)
        have rd : b 0 47 (6 * (j / 6) + e % 6) = nI (A - 1) ↔ G (j / 6) (e % 6) = A - 1 := by
          rw [er]
          by_cases cs : 6 * (j / 6) + e % 6 = j
          · have : e % 6 = j % 6 := by omega
            rw [if_pos cs, if_pos hxn, this, c1, fv_is (by omega) (by omega)]
            constructor
            · intro q; omega
            · intro q
              have := okc.1 (by omega)
              omega
          · rw [if_neg cs, fv_is cu.1 (by omega)]
            exact cu.2
        by_cases c2 : G (j / 6) (e % 6) = A - 1
        · rw [if_pos (rd.mpr c2), q_d6, q_d6, q_rem (show e < 1000 by omega), q_rem (show j < 1000 by omega), q_div6 (by omega), s_leads hb hm (show e / 6 < h 3 by omega) (by omega) (by omega), q_bI] at hX
          by_cases c3 : ldr h (e / 6) (e % 6) (j % 6)
          · rw [if_pos c3, if_neg (by decide), q_g hj (by decide), q_w, nI_1] at hX
            refine fin _ (fun k o jj ho => by rw [q_uo ho]) (kq_up kq_rf rfl) (fun x y hx hy c => by rw [q_uj c]) ?_ hX
            rw [q_us]
            show _ = fv (if _ then A else _)
            rw [if_pos ⟨c1, c2, c3⟩, fv_lt (by omega)]
          · rw [if_neg c3, if_pos rfl, q_g hj (by decide), q_g hj (by decide), q_w, nI_1] at hX
            refine self ?_ hX
            rw [ec]
            show _ = fv (if _ then A else _)
            rw [if_neg (fun q => c3 q.2.2)]
        · rw [if_neg (fun q => c2 (rd.mp q)), q_g hj (by decide), q_g hj (by decide), q_w, nI_1] at hX
          refine self ?_ hX
          rw [ec]
          show _ = fv (if _ then A else _)
          rw [if_neg (fun q => c2 q.2.1)]
      · rw [if_neg (fun q => c1 ((fv_no lec).mp q)), q_g hj (by decide), q_g hj (by decide), q_w, nI_1] at hX
        refine self ?_ hX
        rw [ec]
        show _ = fv (if _ then A else _)
        rw [if_neg (fun q => c1 q.1)]
    · rw [if_pos ((q_leN (by omega) (by omega)).mpr (by omega)), nI_1] at hX
      refine ⟨b, hX, ?_, kq_rf⟩
      intro x y hx hy
      rw [hf x y hx hy]
      congr 1
      unfold cur
      by_cases c : 6 * x + y = j
      · have cx : x = j / 6 := by omega
        rw [if_pos c, if_pos (show 6 * x + y < j + 1 by omega), if_neg (show ¬ x < h 2 by omega), lvl, if_neg (show ¬ x < h 2 by omega)]
      · rw [if_neg c]
        by_cases c2 : 6 * x + y < j
        · rw [if_pos c2, if_pos (by omega)]
        · rw [if_neg c2, if_neg (by omega)]
theorem s_lf36 {h : Nat → Nat} (hb : HB h) {G : Nat → Nat → Nat} {A : Nat} (hA : 1 ≤ A) (hA2 : A < h 2) (i : LI h A G) : ∀ (d j : Nat) (b : mx_S), j + d = 36 → MH 43 h b → MF (cur h G A j) b → ∃ b', H36 (h 2) A j b = H30 (h 2) (A + 1) b' ∧ MF (lvl h G A) b' ∧ kq SFM b b' := by
  have h2 := hb.r2
  intro d
  induction d with
  | zero =>
    intro j b hd hm hf
    have ej : j = 36 := by omega
    subst ej
    refine ⟨b, ?_, ?_, kq_rf⟩
    · unfold H36 H30
      rw [e_M_layFar_36, if_pos (by decide), nI_1]
    · intro x y hx hy
      rw [hf x y hx hy]
      unfold cur
      rw [if_pos (by omega)]
  | succ d ih =>
    intro j b hd hm hf
    obtain ⟨b1, e1, e2, e3⟩ := s_lf46 hb hA hA2 i (show j < 36 by omega) (6 * h 3) 0 b (by omega) hm (fun x y hx hy => by
      rw [hf x y hx hy]
      congr 1
      by_cases c : 6 * x + y = j
      · rw [if_pos c, cur, if_neg (by omega)]
        split <;> rfl
      · rw [if_neg c])
    obtain ⟨b', f1, f2, f3⟩ := ih (j + 1) b1 (by omega) (hm.f e3) e2
    refine ⟨b', ?_, f2, kq_tr e3 f3⟩
    unfold H36
    rw [e_M_layFar_36, if_neg (by rw [q_lit, q_leN (by decide) (by omega)]; omega), q_d6, q_div6 (by omega)]
    exact e1.trans f1
theorem s_lf30 {h : Nat → Nat} (hb : HB h) : ∀ (d A : Nat) (G : Nat → Nat → Nat) (b : mx_S), A + d = h 2 → 1 ≤ A → LI h A G → MH 43 h b → MF G b → ∃ D b', H30 (h 2) A b = some (none, b') ∧ DS h D ∧ MF D b' ∧ kq SFM b b' := by
  have h2 := hb.r2
  intro d
  induction d with
  | zero =>
    intro A G b hd hA i hm hf
    have eA : A = h 2 := by omega
    subst eA
    refine ⟨G, b, ?_, LI_end hb i, hf, kq_rf⟩
    unfold H30
    rw [e_M_layFar_30, if_pos ((q_leN (by omega) (by omega)).mpr (Nat.le_refl _))]
  | succ d ih =>
    intro A G b hd hA i hm hf
    obtain ⟨b1, e1, e2, e3⟩ := s_lf36 hb hA (show A < h 2 by omega) i 36 0 b (by omega) hm (fun x y hx hy => by
      rw [hf x y hx hy]
      unfold cur
      rw [if_neg (by omega)])
    obtain ⟨D, b', f1, f2, f3, f4⟩ := ih (A + 1) _ b1 (by omega) (by omega) (LI_step hb hA (by omega) i) (hm.f e3) e2
    refine ⟨D, b', ?_, f2, f3, kq_tr e3 f4⟩
    unfold H30
    rw [e_M_layFar_30, if_neg (by rw [q_leN (by omega) (by omega)]; omega)]
    exact e1.trans f1
theorem s_lf8 {n : Nat} : ∀ (d j : Nat) (b : mx_S), j + d = 36 → (∀ x y, x < 6 → y < 6 → 6 * x + y < j → b 0 47 (6 * x + y) = fv (if x = y then 0 else 1000)) → ∃ b', mx_H 173 8 [some (mx_R 0 39), some (mx_I (nI n)), some (mx_I (nI j)), none, none, none, none, none] b = H30 n 1 b' ∧ MF (fun x y => if x = y then 0 else 1000) b' ∧ kq SFM b b' := by
  intro d
  induction d with
  | zero =>
    intro j b hd hf
    have ej : j = 36 := by omega
    subst ej
    refine ⟨b, ?_, fun x y hx hy => hf x y hx hy (by omega), kq_rf⟩
    unfold H30
    rw [e_M_layFar_8, if_pos (by decide)]; rfl
  | succ d ih =>
    intro j b hd hf
    have hX := e_M_layFar_8 (nI n) (nI j) b
    rw [if_neg (by rw [q_lit, q_leN (by decide) (by omega)]; omega), q_d6, q_d6, q_rem (by omega), q_div6 (by omega)] at hX
    by_cases c : j / 6 = j % 6
    · rw [if_pos (by rw [c]), q_g (by omega) (by decide), q_w, nI_1] at hX
      obtain ⟨b', e1, e2, e3⟩ := ih (j + 1) (mx_up b 0 47 j 0) (by omega) (fun x y hx hy hlt => by
        by_cases cj : 6 * x + y = j
        · rw [cj, q_us, if_pos (by omega)]; rfl
        · rw [q_uj cj]; exact hf x y hx hy (by omega))
      exact ⟨b', hX.trans e1, e2, kq_tr (kq_up kq_rf rfl) e3⟩
    · rw [if_neg (by rw [q_eqN (by omega) (by omega)]; exact c), q_g (by omega) (by decide), q_w, nI_1] at hX
      obtain ⟨b', e1, e2, e3⟩ := ih (j + 1) (mx_up b 0 47 j (-1000000)) (by omega) (fun x y hx hy hlt => by
        by_cases cj : 6 * x + y = j
        · rw [cj, q_us, if_neg (by omega)]; rfl
        · rw [q_uj cj]; exact hf x y hx hy (by omega))
      exact ⟨b', hX.trans e1, e2, kq_tr (kq_up kq_rf rfl) e3⟩
theorem s_layFar {h : Nat → Nat} (hb : HB h) (h1 : 1 ≤ h 2) {b : mx_S} (hm : MH 43 h b) : ∃ D b', mx_sem 173 [mx_R 0 39] b = some (none, b') ∧ DS h D ∧ MF D b' ∧ kq SFM b b' := by
  obtain ⟨b1, e1, e2, e3⟩ := s_lf8 (n := h 2) 36 0 b (by omega) (fun x y hx hy q => by omega)
  obtain ⟨D, b', f1, f2, f3, f4⟩ := s_lf30 hb (h 2 - 1) 1 _ b1 (by omega) (by omega) ⟨fun x y => by show (if x = y then 0 else 1000) ≤ 1000; split <;> omega, fun x y hx hy q => by
      change (if x = y then 0 else 1000) < 1000 at q
      show (if x = y then 0 else 1000) < 1 ∧ walk h (if x = y then 0 else 1000) x y
      split at q
      · rename_i e
        rw [if_pos e]; exact ⟨by omega, e⟩
      · omega, fun k x y hk hx hy w => by
      have : k = 0 := by omega
      subst this
      show (if x = y then 0 else 1000) ≤ 0
      rw [if_pos (show x = y from w)]
      exact Nat.le_refl 0⟩ (hm.f e3) e2
  refine ⟨D, b', ?_, f2, f3, kq_tr e3 f4⟩
  rw [e_M_layFar, q_gl (by decide) (by decide), hm 2 (by decide)]
  exact e1.trans f1
