/-! ===== the house as it is told: h, 80 numbers as M lays them ===== -/
def XP (k : Nat) (h mt lw : Nat → Nat) (a : mx_S) : Prop :=
  (a k 1 0 = nI (h 0)) ∧ (a k 1 1 = nI (h 1)) ∧ (a k 1 2 = nI (h 2)) ∧ (a k 1 4 = nI (h 3)) ∧ (a k 1 8 = nI (h 4)) ∧ (a k 1 12 = nI (h 5)) ∧ (a k 1 17 = nI (h 6)) ∧ (∀ i, i < h 2 → a k 2 i = nI (h (7 + i))) ∧ (∀ d, d < h 3 → a k 3 d = nI (h (13 + 3 * d)) ∧ a k 4 d = nI (h (14 + 3 * d)) ∧ a k 5 d = nI (h (15 + 3 * d))) ∧ (∀ p, p < h 4 → a k 6 p = nI (h (40 + 2 * p)) ∧ a k 7 p = nI (h (41 + 2 * p)) ∧ a k 8 p = nI (mt p)) ∧ (∀ g, g < h 5 → a k 9 g = nI (h (56 + 4 * g)) ∧ a k 10 g = nI (h (57 + 4 * g)) ∧ a k 11 g = nI (lw g) ∧ a k 12 g = nI (h (59 + 4 * g)))
theorem XP.f0 {k : Nat} {h mt lw : Nat → Nat} {a : mx_S} (x_ : XP k h mt lw a) : a k 1 0 = nI (h 0) := x_.1
theorem XP.f1 {k : Nat} {h mt lw : Nat → Nat} {a : mx_S} (x_ : XP k h mt lw a) : a k 1 1 = nI (h 1) := x_.2.1
theorem XP.f2 {k : Nat} {h mt lw : Nat → Nat} {a : mx_S} (x_ : XP k h mt lw a) : a k 1 2 = nI (h 2) := x_.2.2.1
theorem XP.f4 {k : Nat} {h mt lw : Nat → Nat} {a : mx_S} (x_ : XP k h mt lw a) : a k 1 4 = nI (h 3) := x_.2.2.2.1
theorem XP.f8 {k : Nat} {h mt lw : Nat → Nat} {a : mx_S} (x_ : XP k h mt lw a) : a k 1 8 = nI (h 4) := x_.2.2.2.2.1
theorem XP.f12 {k : Nat} {h mt lw : Nat → Nat} {a : mx_S} (x_ : XP k h mt lw a) : a k 1 12 = nI (h 5) := x_.2.2.2.2.2.1
theorem XP.f17 {k : Nat} {h mt lw : Nat → Nat} {a : mx_S} (x_ : XP k h mt lw a) : a k 1 17 = nI (h 6) := x_.2.2.2.2.2.2.1
theorem XP.rm {k : Nat} {h mt lw : Nat → Nat} {a : mx_S} (x_ : XP k h mt lw a) : ∀ i, i < h 2 → a k 2 i = nI (h (7 + i)) := x_.2.2.2.2.2.2.2.1
theorem XP.dr {k : Nat} {h mt lw : Nat → Nat} {a : mx_S} (x_ : XP k h mt lw a) : ∀ d, d < h 3 → a k 3 d = nI (h (13 + 3 * d)) ∧ a k 4 d = nI (h (14 + 3 * d)) ∧ a k 5 d = nI (h (15 + 3 * d)) := x_.2.2.2.2.2.2.2.2.1
theorem XP.pc {k : Nat} {h mt lw : Nat → Nat} {a : mx_S} (x_ : XP k h mt lw a) : ∀ p, p < h 4 → a k 6 p = nI (h (40 + 2 * p)) ∧ a k 7 p = nI (h (41 + 2 * p)) ∧ a k 8 p = nI (mt p) := x_.2.2.2.2.2.2.2.2.2.1
theorem XP.gr {k : Nat} {h mt lw : Nat → Nat} {a : mx_S} (x_ : XP k h mt lw a) : ∀ g, g < h 5 → a k 9 g = nI (h (56 + 4 * g)) ∧ a k 10 g = nI (h (57 + 4 * g)) ∧ a k 11 g = nI (lw g) ∧ a k 12 g = nI (h (59 + 4 * g)) := x_.2.2.2.2.2.2.2.2.2.2
def MH (o : Nat) (h : Nat → Nat) (b : mx_S) : Prop := ∀ i, i < 80 → b 0 o i = nI (h i)
def sm (h : Nat → Nat) : Nat → Nat
  | 0 => 0
  | g + 1 => sm h g + h (56 + 4 * g)
def HB (h : Nat → Nat) : Prop :=
  (h 0 ≤ 20) ∧ (h 1 ≤ 20) ∧ (h 2 ≤ 6) ∧ (h 3 ≤ 9) ∧ (h 4 ≤ 8) ∧ (h 5 ≤ 6) ∧ (h 6 ≤ 30) ∧ (∀ i, i < h 2 → 1 ≤ h (7 + i) ∧ h (7 + i) ≤ 40) ∧ (∀ d, d < h 3 → h (13 + 3 * d) < h 2 ∧ h (14 + 3 * d) < h 2 ∧ h (13 + 3 * d) ≠ h (14 + 3 * d) ∧ h (15 + 3 * d) ≤ 1) ∧ (∀ p, p < h 4 → h (40 + 2 * p) < h 2 ∧ 1 ≤ h (41 + 2 * p) ∧ h (41 + 2 * p) ≤ 60) ∧ (∀ g, g < h 5 → 1 ≤ h (56 + 4 * g) ∧ h (56 + 4 * g) ≤ 20 ∧ h (57 + 4 * g) ≤ 60 ∧ h (58 + 4 * g) ≤ 2 ∧ h (59 + 4 * g) ≤ 20) ∧ (h 6 = sm h (h 5))
theorem HB.r0 {h : Nat → Nat} (x_ : HB h) : h 0 ≤ 20 := x_.1
theorem HB.r1 {h : Nat → Nat} (x_ : HB h) : h 1 ≤ 20 := x_.2.1
theorem HB.r2 {h : Nat → Nat} (x_ : HB h) : h 2 ≤ 6 := x_.2.2.1
theorem HB.r3 {h : Nat → Nat} (x_ : HB h) : h 3 ≤ 9 := x_.2.2.2.1
theorem HB.r4 {h : Nat → Nat} (x_ : HB h) : h 4 ≤ 8 := x_.2.2.2.2.1
theorem HB.r5 {h : Nat → Nat} (x_ : HB h) : h 5 ≤ 6 := x_.2.2.2.2.2.1
theorem HB.r6 {h : Nat → Nat} (x_ : HB h) : h 6 ≤ 30 := x_.2.2.2.2.2.2.1
theorem HB.rm {h : Nat → Nat} (x_ : HB h) : ∀ i, i < h 2 → 1 ≤ h (7 + i) ∧ h (7 + i) ≤ 40 := x_.2.2.2.2.2.2.2.1
theorem HB.dr {h : Nat → Nat} (x_ : HB h) : ∀ d, d < h 3 → h (13 + 3 * d) < h 2 ∧ h (14 + 3 * d) < h 2 ∧ h (13 + 3 * d) ≠ h (14 + 3 * d) ∧ h (15 + 3 * d) ≤ 1 := x_.2.2.2.2.2.2.2.2.1
theorem HB.pc {h : Nat → Nat} (x_ : HB h) : ∀ p, p < h 4 → h (40 + 2 * p) < h 2 ∧ 1 ≤ h (41 + 2 * p) ∧ h (41 + 2 * p) ≤ 60 := x_.2.2.2.2.2.2.2.2.2.1
theorem HB.gr {h : Nat → Nat} (x_ : HB h) : ∀ g, g < h 5 → 1 ≤ h (56 + 4 * g) ∧ h (56 + 4 * g) ≤ 20 ∧ h (57 + 4 * g) ≤ 60 ∧ h (58 + 4 * g) ≤ 2 ∧ h (59 + 4 * g) ≤ 20 := x_.2.2.2.2.2.2.2.2.2.2.1
theorem HB.su {h : Nat → Nat} (x_ : HB h) : h 6 = sm h (h 5) := x_.2.2.2.2.2.2.2.2.2.2.2
def mt0 (h : Nat → Nat) (p : Nat) : Nat := 2 + h (41 + 2 * p) / 10
def lw0 (h : Nat → Nat) (g : Nat) : Nat := h (58 + 4 * g)
def uf (h : Nat → Nat) (i v : Nat) : Nat → Nat := fun j => if j = i then v else h j
theorem uf_s {h : Nat → Nat} {i v : Nat} : uf h i v i = v := if_pos rfl
theorem uf_o {h : Nat → Nat} {i v j : Nat} (q : j ≠ i) : uf h i v j = h j := if_neg q
theorem sm_c {h h' : Nat → Nat} : ∀ n, (∀ g, g < n → h' (56 + 4 * g) = h (56 + 4 * g)) → sm h' n = sm h n
  | 0, _ => rfl
  | n + 1, q => by
    show sm h' n + h' (56 + 4 * n) = sm h n + h (56 + 4 * n)
    rw [sm_c n (fun g hg => q g (by omega)), q n (by omega)]
theorem XP.k {k : Nat} {h mt lw : Nat → Nat} {a a' : mx_S} (x : XP k h mt lw a) (e : ∀ o j, 1 ≤ o → o ≤ 12 → a' k o j = a k o j) : XP k h mt lw a' := by
  refine ⟨?_, ?_, ?_, ?_, ?_, ?_, ?_, fun i hi => ?_, fun i hi => ?_, fun i hi => ?_, fun i hi => ?_⟩
  · rw [e 1 0 (by omega) (by omega)]; exact x.f0
  · rw [e 1 1 (by omega) (by omega)]; exact x.f1
  · rw [e 1 2 (by omega) (by omega)]; exact x.f2
  · rw [e 1 4 (by omega) (by omega)]; exact x.f4
  · rw [e 1 8 (by omega) (by omega)]; exact x.f8
  · rw [e 1 12 (by omega) (by omega)]; exact x.f12
  · rw [e 1 17 (by omega) (by omega)]; exact x.f17
  · rw [e 2 i (by omega) (by omega)]; exact x.rm i hi
  · rw [e 3 i (by omega) (by omega), e 4 i (by omega) (by omega), e 5 i (by omega) (by omega)]; exact x.dr i hi
  · rw [e 6 i (by omega) (by omega), e 7 i (by omega) (by omega), e 8 i (by omega) (by omega)]; exact x.pc i hi
  · rw [e 9 i (by omega) (by omega), e 10 i (by omega) (by omega), e 11 i (by omega) (by omega), e 12 i (by omega) (by omega)]; exact x.gr i hi
theorem MH.k {o : Nat} {h : Nat → Nat} {b b' : mx_S} (x : MH o h b) (e : ∀ j, b' 0 o j = b 0 o j) : MH o h b' := fun i hi => by rw [e i]; exact x i hi
theorem MH.up {o : Nat} {h : Nat → Nat} {b : mx_S} (x : MH o h b) (i v : Nat) : MH o (uf h i v) (mx_up b 0 o i (nI v)) := by
  intro j hj
  by_cases e : j = i
  · subst e; rw [q_us, uf_s]
  · rw [q_uj e, uf_o e]; exact x j hj
/-- the plan that is being read: X's trial, M's fresh -/
def PI (h : Nat → Nat) (a b : mx_S) : Prop :=
  (XP 1 h (mt0 h) (lw0 h) a) ∧ (MH 44 h b) ∧ (HB h)
theorem PI.x {h : Nat → Nat} {a b : mx_S} (x_ : PI h a b) : XP 1 h (mt0 h) (lw0 h) a := x_.1
theorem PI.m {h : Nat → Nat} {a b : mx_S} (x_ : PI h a b) : MH 44 h b := x_.2.1
theorem PI.g {h : Nat → Nat} {a b : mx_S} (x_ : PI h a b) : HB h := x_.2.2
theorem PI.k {h : Nat → Nat} {a b a' b' : mx_S} (p : PI h a b) (hX : kq SRX a a') (hM : kq SRM b b') : PI h a' b' :=
  ⟨p.x.k (fun o j h1 h2 => hX 1 o j (fun q => by have := q.1; omega)), p.m.k (fun j => hM 0 44 j (fun q => absurd q.1 (by decide))), p.g⟩
theorem x_is1 {n : Nat} {tb : Nat → Nat} (htb : ∀ j, tb j < 256) {st k : Nat} (hk : k < 9) (hw : wdB tb n st k = true) {a b : mx_S} (h : RD n tb 0 st a b) : mx_sem 52 [mx_R 0 29, mx_R k 55] a = some (some (mx_I 1), a) := by
  rw [s_isWord htb hk h, if_pos ⟨rfl, hw⟩]
theorem x_is0 {n : Nat} {tb : Nat → Nat} (htb : ∀ j, tb j < 256) {f st k : Nat} (hk : k < 9) (hw : ¬ wdB tb n st k = true) {a b : mx_S} (h : RD n tb f st a b) : mx_sem 52 [mx_R 0 29, mx_R k 55] a = some (some (mx_I 0), a) := by
  rw [s_isWord htb hk h, if_neg (fun q => hw q.2)]
/-- both begin the i-th of a sort -/
theorem p_begin {n : Nat} {tb : Nat → Nat} (htb : ∀ j, tb j < 256) {st k i most srt : Nat} (hk : k < 9) (hw : wdB tb n st k = true) {a b : mx_S} (h : RD n tb 0 st a b) (hs : srt < 80) (hb : b 0 44 srt = nI i) (hi : i ≤ most) (hm : most < 100) : ∃ a' b' f', mx_sem 54 [mx_R 0 29, mx_R k 55, mx_I (nI i), mx_I (nI most)] a = some (none, a') ∧ mx_sem 133 [mx_R 0 39, mx_I (nI srt), mx_I (nI most)] b = some (none, b') ∧ Gn n tb a b a' b' f' ∧ (f' = 0 → i < most) := by
  have hX0 := e_R_takeWord k (nI i) (nI most) a
  have hM0 := e_M_begins (nI srt) (nI most) b
  rw [if_pos h.fx.1, x_is1 htb hk hw h, q_bI, if_neg (by decide)] at hX0
  rw [q_g hs (by decide), hb] at hM0
  by_cases hlt : i < most
  · obtain ⟨a', b', x1, x2, x3⟩ := h.nx htb
    rw [if_pos ((q_ltN (by omega) (by omega)).mpr hlt), x1, q_bV] at hX0
    rw [if_neg (by rw [q_eqN (by omega) (by omega)]; omega), s_must1 h x2, q_bV] at hM0
    exact ⟨a', b', 0, hX0, hM0, x3, fun _ => hlt⟩
  · rw [if_neg (by rw [q_ltN (by omega) (by omega)]; exact hlt), q_w] at hX0
    have h3 := h.bad 3 (by decide)
    have hmf := s_mustF h3 (by decide) 1
    rw [show (nI 3) = 3 from rfl] at hmf
    rw [if_pos (by rw [q_eqN (by omega) (by omega)]; omega), s_bad0 h, q_bV, hmf, q_bV] at hM0
    exact ⟨_, _, 3, hX0, hM0, ⟨st, h3, bad_kX, bad_kM⟩, fun q => absurd q (by decide)⟩
/-- where a fault is told X's reader passes over all -/
theorem x_wordF {n : Nat} {tb : Nat → Nat} {f st : Nat} {a b : mx_S} (h : RD n tb f st a b) (hf : f ≠ 0) (k : Nat) (x y : Int32) : mx_sem 54 [mx_R 0 29, mx_R k 55, mx_I x, mx_I y] a = some (none, a) := by
  rw [e_R_takeWord, if_neg (h.f0 hf).1]
theorem x_numF {n : Nat} {tb : Nat → Nat} {f st : Nat} {a b : mx_S} (h : RD n tb f st a b) (hf : f ≠ 0) (x y : Int32) : mx_sem 55 [mx_R 0 29, mx_I x, mx_I y] a = some (some (mx_I (a 0 29 6)), a) := by
  rw [e_R_takeNumber, if_neg (h.f0 hf).1, if_neg (h.f0 hf).1, if_neg (h.f0 hf).1]
theorem x_signF {n : Nat} {tb : Nat → Nat} {f st : Nat} {a b : mx_S} (h : RD n tb f st a b) (hf : f ≠ 0) : mx_sem 56 [mx_R 0 29] a = some (none, a) := by
  rw [e_R_takeSign, if_neg (h.f0 hf).1, if_neg (h.f0 hf).1]
theorem x_isF {n : Nat} {tb : Nat → Nat} (htb : ∀ j, tb j < 256) {f st : Nat} {a b : mx_S} (h : RD n tb f st a b) (hf : f ≠ 0) {k : Nat} (hk : k < 9) : mx_sem 52 [mx_R 0 29, mx_R k 55] a = some (some (mx_I 0), a) := by
  rw [s_isWord htb hk h, if_neg (fun q => hf q.1)]
theorem x_lawF {n : Nat} {tb : Nat → Nat} (htb : ∀ j, tb j < 256) {f st : Nat} {a b : mx_S} (h : RD n tb f st a b) (hf : f ≠ 0) : mx_sem 61 [mx_R 0 29] a = some (some (mx_I 3), a) := by
  rw [e_R_takeLaw, x_isF htb h hf (by decide), q_bI, if_pos rfl, x_isF htb h hf (by decide), q_bI, if_pos rfl, x_isF htb h hf (by decide), q_bI, if_pos rfl, if_neg (h.f0 hf).1, if_neg (h.f0 hf).1]
/-- it isn't the word: both tell fault 1 -/
theorem p_no {n : Nat} {tb : Nat → Nat} (htb : ∀ j, tb j < 256) {st k : Nat} (hk : k < 9) (hw : ¬ wdB tb n st k = true) {a b : mx_S} (h : RD n tb 0 st a b) (x y : Int32) {w : Int64} (hwn : w = lN (wN k)) : mx_sem 54 [mx_R 0 29, mx_R k 55, mx_I x, mx_I y] a = some (none, mx_up a 0 29 3 (nI 1)) ∧ mx_sem 167 [mx_R 0 39, mx_J w] b = some (none, mx_up (mx_up b 0 39 18 (nI 1)) 0 39 19 (nI st)) := by
  refine ⟨?_, ?_⟩
  · rw [e_R_takeWord, if_pos h.fx.1, x_is0 htb hk hw h, q_bI, if_pos rfl, q_w]; rfl
  · rw [e_M_mustBegin, s_name htb h, q_bJ, if_neg (by rw [nm_cmp hk hwn]; exact fun q => hw q.2), s_bad0 h, q_bV]; rfl
theorem m_yes {n : Nat} {tb : Nat → Nat} (htb : ∀ j, tb j < 256) {st k : Nat} (hk : k < 9) (hw : wdB tb n st k = true) {a b : mx_S} (h : RD n tb 0 st a b) {w : Int64} (hwn : w = lN (wN k)) : mx_sem 167 [mx_R 0 39, mx_J w] b = some (none, b) := by
  rw [e_M_mustBegin, s_name htb h, q_bJ, if_pos ((nm_cmp hk hwn).mpr ⟨rfl, hw⟩)]
theorem m_beginF {n : Nat} {tb : Nat → Nat} (htb : ∀ j, tb j < 256) {f st k : Nat} (hk : k < 9) {a b : mx_S} (h : RD n tb f st a b) (hf : f ≠ 0) {w : Int64} (hwn : w = lN (wN k)) : mx_sem 167 [mx_R 0 39, mx_J w] b = some (none, b) := by
  rw [e_M_mustBegin, s_name htb h, q_bJ, if_neg (by rw [nm_cmp hk hwn]; exact fun q => hf q.1), s_badF h hf, q_bV]
/-- one more room -/
theorem PI.room {h : Nat → Nat} {a b : mx_S} (p : PI h a b) (hr : h 2 < 6) (h0 : h 3 = 0) (h4 : h 4 = 0) {v : Nat} (v1 : 1 ≤ v) (v2 : v ≤ 40) : PI (uf (uf h (7 + h 2) v) 2 (h 2 + 1)) (mx_up (mx_up a 1 2 (h 2) (nI v)) 1 1 2 (nI (h 2 + 1))) (mx_up (mx_up b 0 44 (7 + h 2) (nI v)) 0 44 2 (nI (h 2 + 1))) := by
  have hb := p.g
  have hx := p.x
  have eo : ∀ j, j ≠ 2 → j ≠ 7 + h 2 → uf (uf h (7 + h 2) v) 2 (h 2 + 1) j = h j := fun j q1 q2 => by rw [uf_o q1, uf_o q2]
  have e2 : uf (uf h (7 + h 2) v) 2 (h 2 + 1) 2 = h 2 + 1 := uf_s
  have e7 : uf (uf h (7 + h 2) v) 2 (h 2 + 1) (7 + h 2) = v := by rw [uf_o (by omega), uf_s]
  generalize hh : uf (uf h (7 + h 2) v) 2 (h 2 + 1) = h' at eo e2 e7
  have e3 : h' 3 = 0 := by rw [eo 3 (by omega) (by omega)]; exact h0
  have e4 : h' 4 = 0 := by rw [eo 4 (by omega) (by omega)]; exact h4
  have e5 : h' 5 = h 5 := eo 5 (by omega) (by omega)
  refine ⟨?_, hh ▸ (p.m.up (7 + h 2) v).up 2 (h 2 + 1), ?_⟩
  · refine ⟨?_, ?_, ?_, ?_, ?_, ?_, ?_, fun i hi => ?_, fun i hi => ?_, fun i hi => ?_, fun i hi => ?_⟩
    · rw [q_uj (by decide), q_uo (by decide), eo 0 (by omega) (by omega)]; exact hx.f0
    · rw [q_uj (by decide), q_uo (by decide), eo 1 (by omega) (by omega)]; exact hx.f1
    · rw [q_us, e2]
    · rw [q_uj (by decide), q_uo (by decide), eo 3 (by omega) (by omega)]; exact hx.f4
    · rw [q_uj (by decide), q_uo (by decide), eo 4 (by omega) (by omega)]; exact hx.f8
    · rw [q_uj (by decide), q_uo (by decide), e5]; exact hx.f12
    · rw [q_uj (by decide), q_uo (by decide), eo 6 (by omega) (by omega)]; exact hx.f17
    · rw [q_uo (by decide)]
      by_cases e : i = h 2
      · subst e; rw [q_us, e7]
      · rw [q_uj e, eo _ (by omega) (by omega)]; exact hx.rm i (by omega)
    · omega
    · omega
    · rw [q_uo (by decide), q_uo (by decide), q_uo (by decide), q_uo (by decide), q_uo (by decide), q_uo (by decide), q_uo (by decide), q_uo (by decide), eo _ (by omega) (by omega), eo _ (by omega) (by omega), eo _ (by omega) (by omega), lw0, eo _ (by omega) (by omega)]
      exact hx.gr i (by omega)
  · refine ⟨?_, ?_, ?_, ?_, ?_, ?_, ?_, fun i hi => ?_, fun i hi => ?_, fun i hi => ?_, fun i hi => ?_, ?_⟩
    · rw [eo _ (by omega) (by omega)]; exact hb.r0
    · rw [eo _ (by omega) (by omega)]; exact hb.r1
    · omega
    · omega
    · omega
    · rw [e5]; exact hb.r5
    · rw [eo _ (by omega) (by omega)]; exact hb.r6
    · by_cases e : i = h 2
      · subst e; rw [e7]; exact ⟨v1, v2⟩
      · rw [eo _ (by omega) (by omega)]; exact hb.rm i (by omega)
    · omega
    · omega
    · rw [eo _ (by omega) (by omega), eo _ (by omega) (by omega), eo _ (by omega) (by omega), eo _ (by omega) (by omega)]
      exact hb.gr i (by omega)
    · rw [e5, sm_c (h := h) (h 5) (fun g _ => eo _ (by omega) (by omega)), eo 6 (by omega) (by omega)]; exact hb.su
/-- one more door -/
theorem PI.door {h : Nat → Nat} {a b : mx_S} (p : PI h a b) (hr : h 3 < 9) {u v w : Nat} (u1 : u < h 2) (v1 : v < h 2) (uv : u ≠ v) (w1 : w ≤ 1) : PI (uf (uf (uf (uf h (13 + 3 * h 3) u) (13 + 3 * h 3 + 1) v) (13 + 3 * h 3 + 2) w) 3 (h 3 + 1)) (mx_up (mx_up (mx_up (mx_up a 1 3 (h 3) (nI u)) 1 4 (h 3) (nI v)) 1 5 (h 3) (nI w)) 1 1 4 (nI (h 3 + 1))) (mx_up (mx_up (mx_up (mx_up b 0 44 (13 + 3 * h 3) (nI u)) 0 44 (13 + 3 * h 3 + 1) (nI v)) 0 44 (13 + 3 * h 3 + 2) (nI w)) 0 44 3 (nI (h 3 + 1))) := by
  have hb := p.g
  have hx := p.x
  have eo : ∀ j, j ≠ 3 → j ≠ 13 + 3 * h 3 → j ≠ 13 + 3 * h 3 + 1 → j ≠ 13 + 3 * h 3 + 2 → uf (uf (uf (uf h (13 + 3 * h 3) u) (13 + 3 * h 3 + 1) v) (13 + 3 * h 3 + 2) w) 3 (h 3 + 1) j = h j := fun j q1 q2 q3 q4 => by rw [uf_o q1, uf_o q4, uf_o q3, uf_o q2]
  have e3 : uf (uf (uf (uf h (13 + 3 * h 3) u) (13 + 3 * h 3 + 1) v) (13 + 3 * h 3 + 2) w) 3 (h 3 + 1) 3 = h 3 + 1 := uf_s
  have e7 : uf (uf (uf (uf h (13 + 3 * h 3) u) (13 + 3 * h 3 + 1) v) (13 + 3 * h 3 + 2) w) 3 (h 3 + 1) (13 + 3 * h 3) = u := by rw [uf_o (by omega), uf_o (by omega), uf_o (by omega), uf_s]
  have e8 : uf (uf (uf (uf h (13 + 3 * h 3) u) (13 + 3 * h 3 + 1) v) (13 + 3 * h 3 + 2) w) 3 (h 3 + 1) (14 + 3 * h 3) = v := by rw [uf_o (by omega), uf_o (by omega), show 14 + 3 * h 3 = 13 + 3 * h 3 + 1 by omega, uf_s]
  have e9 : uf (uf (uf (uf h (13 + 3 * h 3) u) (13 + 3 * h 3 + 1) v) (13 + 3 * h 3 + 2) w) 3 (h 3 + 1) (15 + 3 * h 3) = w := by rw [uf_o (by omega), show 15 + 3 * h 3 = 13 + 3 * h 3 + 2 by omega, uf_s]
  generalize hh : uf (uf (uf (uf h (13 + 3 * h 3) u) (13 + 3 * h 3 + 1) v) (13 + 3 * h 3 + 2) w) 3 (h 3 + 1) = h' at eo e3 e7 e8 e9
  have e2 : h' 2 = h 2 := eo 2 (by omega) (by omega) (by omega) (by omega)
  have e4 : h' 4 = h 4 := eo 4 (by omega) (by omega) (by omega) (by omega)
  have e5 : h' 5 = h 5 := eo 5 (by omega) (by omega) (by omega) (by omega)
  have ep : ∀ j, 40 ≤ j → h' j = h j := fun j hj => eo j (by omega) (by omega) (by omega) (by omega)
  refine ⟨?_, hh ▸ (((p.m.up _ u).up _ v).up _ w).up 3 (h 3 + 1), ?_⟩
  · refine ⟨?_, ?_, ?_, ?_, ?_, ?_, ?_, fun i hi => ?_, fun i hi => ?_, fun i hi => ?_, fun i hi => ?_⟩
    · rw [q_uj (by decide), q_uo (by decide), q_uo (by decide), q_uo (by decide), eo 0 (by omega) (by omega) (by omega) (by omega)]; exact hx.f0
    · rw [q_uj (by decide), q_uo (by decide), q_uo (by decide), q_uo (by decide), eo 1 (by omega) (by omega) (by omega) (by omega)]; exact hx.f1
    · rw [q_uj (by decide), q_uo (by decide), q_uo (by decide), q_uo (by decide), e2]; exact hx.f2
    · rw [q_us, e3]
    · rw [q_uj (by decide), q_uo (by decide), q_uo (by decide), q_uo (by decide), e4]; exact hx.f8
    · rw [q_uj (by decide), q_uo (by decide), q_uo (by decide), q_uo (by decide), e5]; exact hx.f12
    · rw [q_uj (by decide), q_uo (by decide), q_uo (by decide), q_uo (by decide), eo 6 (by omega) (by omega) (by omega) (by omega)]; exact hx.f17
    · rw [q_uo (by decide), q_uo (by decide), q_uo (by decide), q_uo (by decide), eo _ (by omega) (by have := hb.r2; omega) (by have := hb.r2; omega) (by have := hb.r2; omega)]; exact hx.rm i (by omega)
    · by_cases e : i = h 3
      · subst e; rw [e7, e8, e9]
        refine ⟨?_, ?_, ?_⟩
        · rw [q_uo (by decide), q_uo (by decide), q_uo (by decide), q_us]
        · rw [q_uo (by decide), q_uo (by decide), q_us]
        · rw [q_uo (by decide), q_us]
      · rw [eo _ (by omega) (by omega) (by omega) (by omega), eo _ (by omega) (by omega) (by omega) (by omega), eo _ (by omega) (by omega) (by omega) (by omega)]
        have := hx.dr i (by omega)
        refine ⟨?_, ?_, ?_⟩
        · rw [q_uo (by decide), q_uo (by decide), q_uo (by decide), q_uj e]; exact this.1
        · rw [q_uo (by decide), q_uo (by decide), q_uj e, q_uo (by decide)]; exact this.2.1
        · rw [q_uo (by decide), q_uj e, q_uo (by decide), q_uo (by decide)]; exact this.2.2
    · rw [mt0, ep _ (by omega), ep _ (by omega)]
      simp only [q_uo (show (6 : Nat) ≠ 1 by decide), q_uo (show (6 : Nat) ≠ 3 by decide), q_uo (show (6 : Nat) ≠ 4 by decide), q_uo (show (6 : Nat) ≠ 5 by decide), q_uo (show (7 : Nat) ≠ 1 by decide), q_uo (show (7 : Nat) ≠ 3 by decide), q_uo (show (7 : Nat) ≠ 4 by decide), q_uo (show (7 : Nat) ≠ 5 by decide), q_uo (show (8 : Nat) ≠ 1 by decide), q_uo (show (8 : Nat) ≠ 3 by decide), q_uo (show (8 : Nat) ≠ 4 by decide), q_uo (show (8 : Nat) ≠ 5 by decide)]
      exact hx.pc i (by omega)
    · rw [lw0, ep _ (by omega), ep _ (by omega), ep _ (by omega), ep _ (by omega)]
      have := hx.gr i (by omega)
      refine ⟨?_, ?_, ?_, ?_⟩
      · rw [q_uo (by decide), q_uo (by decide), q_uo (by decide), q_uo (by decide)]; exact this.1
      · rw [q_uo (by decide), q_uo (by decide), q_uo (by decide), q_uo (by decide)]; exact this.2.1
      · rw [q_uo (by decide), q_uo (by decide), q_uo (by decide), q_uo (by decide)]; exact this.2.2.1
      · rw [q_uo (by decide), q_uo (by decide), q_uo (by decide), q_uo (by decide)]; exact this.2.2.2
  · refine ⟨?_, ?_, ?_, ?_, ?_, ?_, ?_, fun i hi => ?_, fun i hi => ?_, fun i hi => ?_, fun i hi => ?_, ?_⟩
    · rw [eo _ (by omega) (by omega) (by omega) (by omega)]; exact hb.r0
    · rw [eo _ (by omega) (by omega) (by omega) (by omega)]; exact hb.r1
    · rw [e2]; exact hb.r2
    · omega
    · rw [e4]; exact hb.r4
    · rw [e5]; exact hb.r5
    · rw [eo _ (by omega) (by omega) (by omega) (by omega)]; exact hb.r6
    · have := hb.r2
      rw [eo _ (by omega) (by omega) (by omega) (by omega)]; exact hb.rm i (by omega)
    · rw [e2]
      by_cases e : i = h 3
      · subst e; rw [e7, e8, e9]; exact ⟨u1, v1, uv, w1⟩
      · rw [eo _ (by omega) (by omega) (by omega) (by omega), eo _ (by omega) (by omega) (by omega) (by omega), eo _ (by omega) (by omega) (by omega) (by omega)]; exact hb.dr i (by omega)
    · rw [e2, ep _ (by omega), ep _ (by omega)]; exact hb.pc i (by omega)
    · rw [ep _ (by omega), ep _ (by omega), ep _ (by omega), ep _ (by omega)]
      exact hb.gr i (by omega)
    · rw [e5, sm_c (h := h) (h 5) (fun g _ => ep _ (by omega)), eo 6 (by omega) (by omega) (by omega) (by omega)]; exact hb.su
