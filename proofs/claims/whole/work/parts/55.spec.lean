/-! ===== what a minute is, as numbers (c: 421 ints as M lays them; hd: heads) ===== -/
abbrev Cr : Type := Nat → Int32
def fup (c : Cr) (j : Nat) (x : Int32) : Cr := fun i => if i = j then x else c i
theorem fup_s {c : Cr} {j : Nat} {x : Int32} : fup c j x j = x := if_pos rfl
theorem fup_o {c : Cr} {j i : Nat} {x : Int32} (h : i ≠ j) : fup c j x i = c i := if_neg h
def rOf (x : Int32) : Nat := x.toNatClampNeg
theorem rOf_n {n : Nat} (h : n < 2147483648) : rOf (nI n) = n := q_cl h
def bitI (p : Nat) : Int32 := (1 : Int32) <<< (nI p &&& 31)
/-! groups -/
def gOf (h : Nat → Nat) (v : Nat) : Nat → Nat
  | 0 => 0
  | g + 1 => if sm h g ≤ v then g else gOf h v g
def gO (h : Nat → Nat) (v : Nat) : Nat := gOf h v (h 5)
theorem sm_mono (h : Nat → Nat) : ∀ (j i : Nat), i ≤ j → sm h i ≤ sm h j
  | 0, i, hi => by rw [show i = 0 by omega]; exact Nat.le_refl _
  | j + 1, i, hi => by
    by_cases e : i = j + 1
    · rw [e]; exact Nat.le_refl _
    · have := sm_mono h j i (by omega)
      show sm h i ≤ sm h j + h (56 + 4 * j)
      omega
theorem gOf_ok (h : Nat → Nat) (v : Nat) : ∀ n, v < sm h n → gOf h v n < n ∧ sm h (gOf h v n) ≤ v ∧ v < sm h (gOf h v n + 1)
  | 0, hv => by exact absurd (show v < 0 from hv) (by omega)
  | n + 1, hv => by
    unfold gOf
    split
    · rename_i c; exact ⟨by omega, c, hv⟩
    · rename_i c
      obtain ⟨h1, h2, h3⟩ := gOf_ok h v n (by omega)
      exact ⟨by omega, h2, h3⟩
theorem gO_ok {h : Nat → Nat} (hb : HB h) {v : Nat} (hv : v < h 6) : gO h v < h 5 ∧ sm h (gO h v) ≤ v ∧ v < sm h (gO h v + 1) := gOf_ok h v (h 5) (by rw [← hb.su]; exact hv)
theorem gO_is {h : Nat → Nat} (hb : HB h) {v g : Nat} (hv : v < h 6) (h1 : sm h g ≤ v) (h2 : v < sm h (g + 1)) : gO h v = g := by
  obtain ⟨o1, o2, o3⟩ := gO_ok hb hv
  by_cases c1 : gO h v < g
  · have := sm_mono h g (gO h v + 1) (by omega); omega
  · by_cases c2 : g < gO h v
    · have := sm_mono h (gO h v) (g + 1) (by omega); omega
    · omega
/-! the aim -/
def opn (h : Nat → Nat) (D : Nat → Nat → Nat) (r : Nat) (dn : Int32) (p : Nat) : Bool := decide ((dn >>> (nI p &&& 31)) &&& 1 = 0) && decide (D r (h (40 + 2 * p)) ≠ 1000)
def wor (h : Nat → Nat) (D : Nat → Nat → Nat) (r p : Nat) : Int32 := nI (h (41 + 2 * p)) - (5 : Int32) * nI (D r (h (40 + 2 * p)))
def aimR (h : Nat → Nat) (D : Nat → Nat → Nat) (l r : Nat) (dn : Int32) : Nat → Nat → Nat → Int32 → Nat
  | 0, _, best, _ => best
  | d + 1, p, best, most => if opn h D r dn p = true then (if l = 2 ∨ (l = 0 ∧ p = 0) then p else (if best = 1000 ∨ ¬ (wor h D r p ≤ most) then aimR h D l r dn d (p + 1) p (wor h D r p) else aimR h D l r dn d (p + 1) best most)) else aimR h D l r dn d (p + 1) best most
def aimF (h : Nat → Nat) (D : Nat → Nat → Nat) (l r : Nat) (dn : Int32) : Nat := aimR h D l r dn (h 4) 0 1000 0
theorem aimR_ok {h : Nat → Nat} {D : Nat → Nat → Nat} {l r : Nat} {dn : Int32} : ∀ (d p best : Nat) (most : Int32), p + d = h 4 → (best = 1000 ∨ (best < p ∧ opn h D r dn best = true)) → aimR h D l r dn d p best most = 1000 ∨ (aimR h D l r dn d p best most < h 4 ∧ opn h D r dn (aimR h D l r dn d p best most) = true)
  | 0, p, best, most, hp, hb => by
    unfold aimR
    rcases hb with hb | hb
    · exact Or.inl hb
    · exact Or.inr ⟨by omega, hb.2⟩
  | d + 1, p, best, most, hp, hb => by
    have hb' : best = 1000 ∨ (best < p + 1 ∧ opn h D r dn best = true) := by
      rcases hb with hb | hb
      · exact Or.inl hb
      · exact Or.inr ⟨by omega, hb.2⟩
    unfold aimR
    split
    · rename_i c
      split
      · exact Or.inr ⟨by omega, c⟩
      · split
        · exact aimR_ok d (p + 1) p _ (by omega) (Or.inr ⟨by omega, c⟩)
        · exact aimR_ok d (p + 1) best most (by omega) hb'
    · exact aimR_ok d (p + 1) best most (by omega) hb'
theorem aimF_ok (h : Nat → Nat) (D : Nat → Nat → Nat) (l r : Nat) (dn : Int32) : aimF h D l r dn = 1000 ∨ (aimF h D l r dn < h 4 ∧ opn h D r dn (aimF h D l r dn) = true) := aimR_ok (h 4) 0 1000 0 (by omega) (Or.inl rfl)
/-! counts -/
def cnt (c : Cr) (x : Int32) : Nat → Nat
  | 0 => 0
  | v + 1 => cnt c x v + (if c (14 * v) = x then 1 else 0)
theorem cnt_le (c : Cr) (x : Int32) : ∀ n, cnt c x n ≤ n
  | 0 => Nat.le_refl 0
  | v + 1 => by
    have := cnt_le c x v
    unfold cnt
    split <;> omega
theorem cnt_c {c c' : Cr} {x : Int32} : ∀ n, (∀ v, v < n → c' (14 * v) = c (14 * v)) → cnt c' x n = cnt c x n
  | 0, _ => rfl
  | v + 1, h => by
    unfold cnt
    rw [cnt_c v (fun w hw => h w (by omega)), h v (by omega)]
theorem cnt_up (c : Cr) (x y : Int32) {w : Nat} : ∀ n, w < n → cnt (fup c (14 * w) y) x n + (if c (14 * w) = x then 1 else 0) = cnt c x n + (if y = x then 1 else 0)
  | 0, h => by omega
  | v + 1, h => by
    unfold cnt
    by_cases e : w = v
    · subst e
      rw [fup_s, cnt_c w (fun u hu => fup_o (by omega))]
      omega
    · have := cnt_up c x y v (show w < v by omega)
      rw [fup_o (by omega)]
      omega
/-! one visitor's turn -/
def waitC (c : Cr) (v aim : Nat) : Cr :=
  if fup c (14 * v + 5) 3 (14 * v + 1) ≤ 0 then (if aim = 1000 then fup (fup c (14 * v + 5) 3) (14 * v) (-2) else fup (fup (fup c (14 * v + 5) 3) (14 * v + 3) (c (14 * v + 3) ||| bitI aim)) (14 * v + 4) (c (14 * v + 4) ||| bitI aim)) else fup (fup c (14 * v + 5) 3) (14 * v + 1) (c (14 * v + 1) - 1)
def entC (h : Nat → Nat) (c : Cr) (v room aim : Nat) : Cr := if cnt c (nI room) (h 6) < h (7 + room) then fup c (14 * v) (nI room) else waitC c v aim
def lookC1 (h : Nat → Nat) (c hd : Cr) (v p : Nat) : Cr := if nI (h 0) ≤ hd p then fup (fup (fup c (14 * v + 5) 2) (14 * v + 2) (c (14 * v + 2) + (4 : Int32) * nI (h (41 + 2 * p)))) (14 * v + 6 + p) (c (14 * v + 6 + p) + 1) else fup (fup (fup c (14 * v + 5) 1) (14 * v + 2) (c (14 * v + 2) + (10 : Int32) * nI (h (41 + 2 * p)))) (14 * v + 6 + p) (c (14 * v + 6 + p) + 1)
def lookC (h mt : Nat → Nat) (c hd : Cr) (v p : Nat) : Cr := if nI (mt p) ≤ c (14 * v + 6 + p) + 1 ∨ (¬ nI (h 1) ≤ 0 ∧ ¬ c (14 * v + 6 + p) + 1 < nI (h 1)) then fup (lookC1 h c hd v p) (14 * v + 3) (c (14 * v + 3) ||| bitI p) else lookC1 h c hd v p
def goC (h mt lw : Nat → Nat) (D : Nat → Nat → Nat) (c hd : Cr) (v : Nat) : Cr × Cr :=
  if c (14 * v) = -1 then (if c 420 < nI (h (57 + 4 * gO h v)) then (fup c (14 * v + 5) 0, hd) else (entC h (fup c (14 * v + 5) 0) v 0 1000, hd))
  else if c (14 * v) = -2 then (fup c (14 * v + 5) 0, hd)
  else if aimF h D (lw (gO h v)) (rOf (c (14 * v))) (c (14 * v + 3)) = 1000 then (fup (fup c (14 * v + 5) 0) (14 * v) (-2), hd)
  else if h (40 + 2 * aimF h D (lw (gO h v)) (rOf (c (14 * v))) (c (14 * v + 3))) = rOf (c (14 * v)) then (lookC h mt (fup c (14 * v + 5) 0) hd v (aimF h D (lw (gO h v)) (rOf (c (14 * v))) (c (14 * v + 3))), fup hd (aimF h D (lw (gO h v)) (rOf (c (14 * v))) (c (14 * v + 3))) (hd (aimF h D (lw (gO h v)) (rOf (c (14 * v))) (c (14 * v + 3))) + 1))
  else (entC h (fup c (14 * v + 5) 0) v (nxr D (h 2) (rOf (c (14 * v))) (h (40 + 2 * aimF h D (lw (gO h v)) (rOf (c (14 * v))) (c (14 * v + 3))))) (aimF h D (lw (gO h v)) (rOf (c (14 * v))) (c (14 * v + 3))), hd)
def mnS (h mt lw : Nat → Nat) (D : Nat → Nat → Nat) (c : Cr) : Nat → Cr × Cr
  | 0 => (c, fun _ => 0)
  | v + 1 => goC h mt lw D (mnS h mt lw D c v).1 (mnS h mt lw D c v).2 v
def minC (h mt lw : Nat → Nat) (D : Nat → Nat → Nat) (c : Cr) : Cr := fup (mnS h mt lw D c (h 6)).1 420 ((mnS h mt lw D c (h 6)).1 420 + 1)
/-- what holds of all that comes -/
def CB (h : Nat → Nat) (c : Cr) : Prop :=
  (∀ v, v < h 6 → c (14 * v) = -1 ∨ c (14 * v) = -2 ∨ ∃ r, r < h 2 ∧ c (14 * v) = nI r) ∧ (∀ v, v < h 6 → ∃ m, m < 256 ∧ c (14 * v + 4) = nI m)
theorem CB.pl {h : Nat → Nat} {c : Cr} (x_ : CB h c) : ∀ v, v < h 6 → c (14 * v) = -1 ∨ c (14 * v) = -2 ∨ ∃ r, r < h 2 ∧ c (14 * v) = nI r := x_.1
theorem CB.ms {h : Nat → Nat} {c : Cr} (x_ : CB h c) : ∀ v, v < h 6 → ∃ m, m < 256 ∧ c (14 * v + 4) = nI m := x_.2
theorem bitI_ok : ∀ p, p < 8 → bitI p = nI (2 ^ p) := by decide +kernel
theorem or_bits : ∀ (m p : Nat), m < 256 → p < 8 → ∃ m', m' < 256 ∧ nI m ||| bitI p = nI m' := by
  intro m p hm hp
  have h1 : 2 ^ p < 256 := by
    have : (2 : Nat) ^ p < 2 ^ 8 := Nat.pow_lt_pow_right (by decide) hp
    exact this
  refine ⟨m ||| 2 ^ p, Nat.or_lt_two_pow (n := 8) hm h1, ?_⟩
  rw [bitI_ok p hp]
  apply Int32.toBitVec_inj.mp
  apply BitVec.eq_of_toNat_eq
  rw [Int32.toBitVec_or]
  show (BitVec.ofNat 32 m ||| BitVec.ofNat 32 (2 ^ p)).toNat = (BitVec.ofNat 32 (m ||| 2 ^ p)).toNat
  have h2 : m ||| 2 ^ p < 256 := Nat.or_lt_two_pow (n := 8) hm h1
  rw [BitVec.toNat_or, BitVec.toNat_ofNat, BitVec.toNat_ofNat, BitVec.toNat_ofNat, Nat.mod_eq_of_lt (by omega), Nat.mod_eq_of_lt (by omega), Nat.mod_eq_of_lt (by omega)]
theorem bit01 (x : Int32) : x &&& 1 = 0 ∨ x &&& 1 = 1 := by
  obtain ⟨j, hj, e⟩ := pk_andE x (m := 1) 1 rfl
  rw [e]
  have : j = 0 ∨ j = 1 := by omega
  rcases this with rfl | rfl
  · exact Or.inl rfl
  · exact Or.inr rfl
/-- a turn leaves the others alone -/
theorem waitC_o (c : Cr) {v aim i : Nat} (hi : i < 14 * v ∨ 14 * v + 14 ≤ i) : waitC c v aim i = c i := by
  unfold waitC
  split
  · split
    · rw [fup_o (by omega), fup_o (by omega)]
    · rw [fup_o (by omega), fup_o (by omega), fup_o (by omega)]
  · rw [fup_o (by omega), fup_o (by omega)]
theorem lookC1_o (h : Nat → Nat) (c hd : Cr) {v p i : Nat} (hp : p < 8) (hi : i < 14 * v ∨ 14 * v + 14 ≤ i) : lookC1 h c hd v p i = c i := by
  unfold lookC1
  split
  · rw [fup_o (by omega), fup_o (by omega), fup_o (by omega)]
  · rw [fup_o (by omega), fup_o (by omega), fup_o (by omega)]
theorem lookC_o (h mt : Nat → Nat) (c hd : Cr) {v p i : Nat} (hp : p < 8) (hi : i < 14 * v ∨ 14 * v + 14 ≤ i) : lookC h mt c hd v p i = c i := by
  unfold lookC
  split
  · rw [fup_o (by omega), lookC1_o h c hd hp hi]
  · exact lookC1_o h c hd hp hi
theorem entC_o (h : Nat → Nat) (c : Cr) {v room aim i : Nat} (hi : i < 14 * v ∨ 14 * v + 14 ≤ i) : entC h c v room aim i = c i := by
  unfold entC
  split
  · rw [fup_o (by omega)]
  · exact waitC_o c hi
theorem goC_o {h mt lw : Nat → Nat} (hb : HB h) {D : Nat → Nat → Nat} (c hd : Cr) {v i : Nat} (hi : i < 14 * v ∨ 14 * v + 14 ≤ i) : (goC h mt lw D c hd v).1 i = c i := by
  unfold goC
  have ok := aimF_ok h D (lw (gO h v)) (rOf (c (14 * v))) (c (14 * v + 3))
  have h4 := hb.r4
  split
  · split
    · exact fup_o (by omega)
    · show entC h _ v _ _ i = _
      rw [entC_o h _ hi, fup_o (by omega)]
  · split
    · exact fup_o (by omega)
    · split
      · show fup _ _ _ i = _
        rw [fup_o (by omega), fup_o (by omega)]
      · rename_i na
        split
        · show lookC h mt _ hd v _ i = _
          rw [lookC_o h mt _ hd (by omega) hi, fup_o (by omega)]
        · show entC h _ v _ _ i = _
          rw [entC_o h _ hi, fup_o (by omega)]
