/-! ===== how far: what both find is the least number of doors ===== -/
/-- door d leads from a to b -/
abbrev ldr (h : Nat → Nat) (d a b : Nat) : Prop := (h (13 + 3 * d) = a ∧ h (14 + 3 * d) = b) ∨ (h (15 + 3 * d) = 0 ∧ h (13 + 3 * d) = b ∧ h (14 + 3 * d) = a)
def lead (h : Nat → Nat) (a b : Nat) : Prop := ∃ d, d < h 3 ∧ ldr h d a b
def walk (h : Nat → Nat) : Nat → Nat → Nat → Prop
  | 0, a, b => a = b
  | k + 1, a, b => ∃ c, walk h k a c ∧ lead h c b
theorem lead_ok {h : Nat → Nat} (hb : HB h) {a b : Nat} (l : lead h a b) : a < h 2 ∧ b < h 2 ∧ a ≠ b := by
  obtain ⟨d, hd, l⟩ := l
  have := hb.dr d hd
  rcases l with ⟨l1, l2⟩ | ⟨l0, l1, l2⟩ <;> omega
theorem walk_in {h : Nat → Nat} (hb : HB h) {k a b : Nat} (w : walk h k a b) (ha : a < h 2) : b < h 2 := by
  cases k with
  | zero => rw [← show a = b from w]; exact ha
  | succ k => obtain ⟨c, -, l⟩ := w; exact (lead_ok hb l).2.1
theorem walk_add {h : Nat → Nat} {j a c : Nat} (w : walk h j a c) : ∀ (k b : Nat), walk h k c b → walk h (j + k) a b
  | 0, b, v => by rw [← show c = b from v]; exact w
  | k + 1, b, ⟨e, v, l⟩ => ⟨e, walk_add w k e v, l⟩
theorem walk_1 {h : Nat → Nat} {a b : Nat} (l : lead h a b) : walk h 1 a b := ⟨a, rfl, l⟩
/-- D tells the least number of doors, or 1000 -/
def DS (h : Nat → Nat) (D : Nat → Nat → Nat) : Prop := ∀ a b, a < h 2 → b < h 2 → D a b ≤ 1000 ∧ (D a b < 1000 → walk h (D a b) a b) ∧ ∀ k, walk h k a b → D a b ≤ k
theorem DS_eq {h : Nat → Nat} {D E : Nat → Nat → Nat} (hD : DS h D) (hE : DS h E) {a b : Nat} (ha : a < h 2) (hb : b < h 2) : D a b = E a b := by
  obtain ⟨d1, d2, d3⟩ := hD a b ha hb
  obtain ⟨e1, e2, e3⟩ := hE a b ha hb
  by_cases hd : D a b < 1000
  · have h1 := e3 _ (d2 hd)
    have h2 := d3 _ (e2 (by omega))
    omega
  · by_cases he : E a b < 1000
    · have := d3 _ (e2 he)
      omega
    · omega
/-- pigeons -/
theorem php : ∀ (n : Nat) (f : Nat → Nat), (∀ i, i ≤ n → f i < n) → ∃ i j, i < j ∧ j ≤ n ∧ f i = f j
  | 0, f, h => absurd (h 0 (Nat.le_refl 0)) (by omega)
  | n + 1, f, h => by
    by_cases hx : ∃ i, i ≤ n ∧ f i = f (n + 1)
    · obtain ⟨i, hi, e⟩ := hx
      exact ⟨i, n + 1, by omega, Nat.le_refl _, e⟩
    · have hne : ∀ i, i ≤ n → f i ≠ f (n + 1) := fun i hi e => hx ⟨i, hi, e⟩
      obtain ⟨i, j, hij, hj, e⟩ := php n (fun i => if f i = n then f (n + 1) else f i) (fun i hi => by
        have h1 := h i (by omega)
        have h2 := h (n + 1) (Nat.le_refl _)
        have h3 := hne i hi
        show (if f i = n then f (n + 1) else f i) < n
        split <;> omega)
      refine ⟨i, j, hij, by omega, ?_⟩
      have h1 := hne i (by omega)
      have h2 := hne j hj
      change (if f i = n then f (n + 1) else f i) = (if f j = n then f (n + 1) else f j) at e
      split at e <;> split at e <;> omega
def isM (h : Nat → Nat) (k a b : Nat) : Prop := walk h k a b ∧ ∀ j, j < k → ¬ walk h j a b
theorem isM_pre {h : Nat → Nat} {k a b : Nat} (w : isM h (k + 1) a b) : ∃ c, lead h c b ∧ isM h k a c := by
  obtain ⟨⟨c, v, l⟩, m⟩ := w
  exact ⟨c, l, v, fun j hj u => m (j + 1) (by omega) ⟨c, u, l⟩⟩
theorem isM_all {h : Nat → Nat} {a : Nat} : ∀ (k b : Nat), isM h k a b → ∀ i, i ≤ k → ∃ c, isM h i a c
  | 0, b, w, i, hi => ⟨b, by rw [show i = 0 by omega]; exact w⟩
  | k + 1, b, w, i, hi => by
    by_cases e : i = k + 1
    · subst e; exact ⟨b, w⟩
    · obtain ⟨c, -, v⟩ := isM_pre w
      exact isM_all k c v i (by omega)
theorem isM_lt {h : Nat → Nat} (hb : HB h) {k a b : Nat} (ha : a < h 2) (w : isM h k a b) : k < h 2 := by
  refine Classical.byContradiction fun hk => ?_
  have hall : ∀ i, ∃ c, i ≤ h 2 → isM h i a c := fun i => by
    by_cases hi : i ≤ h 2
    · obtain ⟨c, hc⟩ := isM_all k b w i (by omega)
      exact ⟨c, fun _ => hc⟩
    · exact ⟨0, fun q => absurd q hi⟩
  have hf : ∀ i, i ≤ h 2 → isM h i a (Classical.choose (hall i)) := fun i hi => Classical.choose_spec (hall i) hi
  obtain ⟨i, j, hij, hj, e⟩ := php (h 2) (fun i => Classical.choose (hall i)) (fun i hi => walk_in hb (hf i hi).1 ha)
  have h1 := hf i (by omega)
  have h2 := hf j hj
  change Classical.choose (hall i) = Classical.choose (hall j) at e
  rw [e] at h1
  exact h2.2 i hij h1.1
theorem walk_min {h : Nat → Nat} {a b : Nat} : ∀ (k : Nat), walk h k a b → ∃ j, j ≤ k ∧ isM h j a b := by
  intro k
  induction k using Nat.strongRecOn with
  | ind k ih =>
    intro w
    by_cases hx : ∃ j, j < k ∧ walk h j a b
    · obtain ⟨j, hj, v⟩ := hx
      obtain ⟨i, hi, u⟩ := ih j hj v
      exact ⟨i, by omega, u⟩
    · exact ⟨k, Nat.le_refl _, w, fun j hj v => hx ⟨j, hj, v⟩⟩
theorem walk_short {h : Nat → Nat} (hb : HB h) {a b k : Nat} (ha : a < h 2) (w : walk h k a b) : ∃ j, j ≤ k ∧ j < h 2 ∧ walk h j a b := by
  obtain ⟨j, hj, v⟩ := walk_min k w
  exact ⟨j, hj, isM_lt hb ha v, v.1⟩
/-- D's least values -/
theorem DS_lt {h : Nat → Nat} (hb : HB h) {D : Nat → Nat → Nat} (hD : DS h D) {a b : Nat} (ha : a < h 2) (hb2 : b < h 2) : D a b < 6 ∨ D a b = 1000 := by
  obtain ⟨d1, d2, d3⟩ := hD a b ha hb2
  by_cases hd : D a b < 1000
  · obtain ⟨j, -, hj, w⟩ := walk_short hb ha (d2 hd)
    have := d3 j w
    have := hb.r2
    omega
  · omega
theorem DS_0 {h : Nat → Nat} {D : Nat → Nat → Nat} (hD : DS h D) {a b : Nat} (ha : a < h 2) (hb : b < h 2) : D a b = 0 ↔ a = b := by
  obtain ⟨d1, d2, d3⟩ := hD a b ha hb
  constructor
  · intro e
    have := d2 (by omega)
    rw [e] at this
    exact this
  · intro e
    have := d3 0 e
    omega
theorem DS_1 {h : Nat → Nat} (hb : HB h) {D : Nat → Nat → Nat} (hD : DS h D) {a b : Nat} (ha : a < h 2) (hb2 : b < h 2) : D a b = 1 ↔ lead h a b := by
  obtain ⟨d1, d2, d3⟩ := hD a b ha hb2
  constructor
  · intro e
    have := d2 (by omega)
    rw [e] at this
    obtain ⟨c, v, l⟩ := this
    rw [show a = c from v]; exact l
  · intro l
    have h1 := d3 1 (walk_1 l)
    have h2 := lead_ok hb l
    have h3 := (DS_0 hD ha hb2).mp
    omega
/-- one door nearer -/
theorem DS_step {h : Nat → Nat} (hb : HB h) {D : Nat → Nat → Nat} (hD : DS h D) {a b : Nat} (ha : a < h 2) (hb2 : b < h 2) (hn : D a b < 1000) (he : a ≠ b) : ∃ c, c < h 2 ∧ D a c = 1 ∧ D c b < 1000 := by
  have key : ∀ (k a b : Nat), walk h (k + 1) a b → ∃ c, lead h a c ∧ walk h k c b := by
    intro k
    induction k with
    | zero =>
      rintro a b ⟨c, v, l⟩
      have e : a = c := v
      subst e
      exact ⟨b, l, rfl⟩
    | succ k ih =>
      rintro a b ⟨c, v, l⟩
      obtain ⟨e, l2, u⟩ := ih a c v
      exact ⟨e, l2, c, u, l⟩
  obtain ⟨d1, d2, d3⟩ := hD a b ha hb2
  have w := d2 hn
  cases hk : D a b with
  | zero => exact absurd ((DS_0 hD ha hb2).mp hk) he
  | succ k =>
    rw [hk] at w
    obtain ⟨c, l, u⟩ := key k a b w
    have hc := (lead_ok hb l).2.1
    refine ⟨c, hc, (DS_1 hb hD ha hc).mpr l, ?_⟩
    have := (hD c b hc hb2).2.2 k u
    omega
/-! Floyd, as numbers -/
def flo (F : Nat → Nat → Nat) (v a b : Nat) : Nat := if F a v + F v b < F a b then F a v + F v b else F a b
def FI (h : Nat → Nat) (v : Nat) (F : Nat → Nat → Nat) : Prop :=
  (∀ a b, a < h 2 → b < h 2 → F a b ≤ 1000) ∧ (∀ a, a < h 2 → F a a = 0) ∧ (∀ a b, a < h 2 → b < h 2 → F a b < 1000 → walk h (F a b) a b) ∧ (∀ a b, a < h 2 → b < h 2 → lead h a b → F a b ≤ 1) ∧ (∀ w a b, w < v → w < h 2 → a < h 2 → b < h 2 → F a b ≤ F a w + F w b)
theorem FI.le {h : Nat → Nat} {v : Nat} {F : Nat → Nat → Nat} (x_ : FI h v F) : ∀ a b, a < h 2 → b < h 2 → F a b ≤ 1000 := x_.1
theorem FI.ze {h : Nat → Nat} {v : Nat} {F : Nat → Nat → Nat} (x_ : FI h v F) : ∀ a, a < h 2 → F a a = 0 := x_.2.1
theorem FI.so {h : Nat → Nat} {v : Nat} {F : Nat → Nat → Nat} (x_ : FI h v F) : ∀ a b, a < h 2 → b < h 2 → F a b < 1000 → walk h (F a b) a b := x_.2.2.1
theorem FI.ed {h : Nat → Nat} {v : Nat} {F : Nat → Nat → Nat} (x_ : FI h v F) : ∀ a b, a < h 2 → b < h 2 → lead h a b → F a b ≤ 1 := x_.2.2.2.1
theorem FI.tr {h : Nat → Nat} {v : Nat} {F : Nat → Nat → Nat} (x_ : FI h v F) : ∀ w a b, w < v → w < h 2 → a < h 2 → b < h 2 → F a b ≤ F a w + F w b := x_.2.2.2.2
theorem FI_step {h : Nat → Nat} {v : Nat} (hv : v < h 2) {F : Nat → Nat → Nat} (i : FI h v F) : FI h (v + 1) (flo F v) := by
  have zv := i.ze v hv
  have le : ∀ a b, flo F v a b ≤ F a b ∧ flo F v a b ≤ F a v + F v b ∧ (flo F v a b = F a b ∨ flo F v a b = F a v + F v b) := fun a b => by
    unfold flo
    split <;> omega
  refine ⟨fun a b ha hb => ?_, fun a ha => ?_, fun a b ha hb hn => ?_, fun a b ha hb l => ?_, fun w a b hw hwn ha hb => ?_⟩
  · have := i.le a b ha hb; have := le a b; omega
  · have := i.ze a ha; have := le a a; omega
  · rcases (le a b).2.2 with e | e
    · rw [e] at hn ⊢; exact i.so a b ha hb hn
    · rw [e] at hn ⊢
      exact walk_add (i.so a v ha hv (by omega)) _ _ (i.so v b hv hb (by omega))
  · have := i.ed a b ha hb l; have := le a b; omega
  · have l1 := le a b
    have l2 := le a w
    have l3 := le w b
    by_cases e : w = v
    · subst e
      omega
    · have t1 := i.tr w a b (by omega) hwn ha hb
      have t2 := i.tr w v b (by omega) hwn hv hb
      have t3 := i.tr w a v (by omega) hwn ha hv
      omega
theorem FI_end {h : Nat → Nat} (hb : HB h) {F : Nat → Nat → Nat} (i : FI h (h 2) F) : DS h F := by
  intro a b ha hb2
  refine ⟨i.le a b ha hb2, i.so a b ha hb2, ?_⟩
  intro k
  induction k generalizing b with
  | zero =>
    intro w
    rw [← show a = b from w, i.ze a ha]
    exact Nat.le_refl 0
  | succ k ih =>
    rintro ⟨c, v, l⟩
    have hc := (lead_ok hb l).1
    have h1 := ih c hc v
    have h2 := i.ed c b hc hb2 l
    have h3 := i.tr c a b hc hc ha hb2
    omega
/-- the doors alone -/
def Edg (h : Nat → Nat) : Nat → Nat → Nat → Nat
  | 0, a, b => if a = b ∧ a < h 2 then 0 else 1000
  | d + 1, a, b => if ldr h d a b then 1 else Edg h d a b
theorem Edg_is (h : Nat → Nat) (hb : HB h) : ∀ d, d ≤ h 3 → ∀ a b, (Edg h d a b = 0 ∧ a = b ∧ a < h 2 ∧ ¬ ∃ e, e < d ∧ ldr h e a b) ∨ (Edg h d a b = 1 ∧ ∃ e, e < d ∧ ldr h e a b) ∨ (Edg h d a b = 1000 ∧ ¬ (a = b ∧ a < h 2) ∧ ¬ ∃ e, e < d ∧ ldr h e a b)
  | 0, _, a, b => by
    unfold Edg
    split
    · rename_i q; exact Or.inl ⟨rfl, q.1, q.2, fun ⟨e, he, _⟩ => by omega⟩
    · rename_i q; exact Or.inr (Or.inr ⟨rfl, q, fun ⟨e, he, _⟩ => by omega⟩)
  | d + 1, hd, a, b => by
    unfold Edg
    split
    · rename_i q; exact Or.inr (Or.inl ⟨rfl, d, by omega, q⟩)
    · rename_i q
      have no : (¬ ∃ e, e < d ∧ ldr h e a b) → ¬ ∃ e, e < d + 1 ∧ ldr h e a b := fun n ⟨e, he, l⟩ => by
        by_cases ed : e = d
        · subst ed; exact q l
        · exact n ⟨e, by omega, l⟩
      rcases Edg_is h hb d (by omega) a b with ⟨e1, e2, e3, e4⟩ | ⟨e1, e, he, l⟩ | ⟨e1, e2, e3⟩
      · exact Or.inl ⟨e1, e2, e3, no e4⟩
      · exact Or.inr (Or.inl ⟨e1, e, by omega, l⟩)
      · exact Or.inr (Or.inr ⟨e1, e2, no e3⟩)
theorem FI_begin {h : Nat → Nat} (hb : HB h) : FI h 0 (Edg h (h 3)) := by
  have key := Edg_is h hb (h 3) (Nat.le_refl _)
  refine ⟨fun a b ha hb2 => ?_, fun a ha => ?_, fun a b ha hb2 hn => ?_, fun a b ha hb2 l => ?_, fun w a b hw => by omega⟩
  · rcases key a b with q | q | q <;> omega
  · rcases key a a with q | ⟨q, e, he, l⟩ | q
    · exact q.1
    · exact absurd rfl (lead_ok hb ⟨e, he, l⟩).2.2
    · exact absurd ⟨rfl, ha⟩ q.2.1
  · rcases key a b with q | ⟨q, l⟩ | q
    · rw [q.1]; exact q.2.1
    · rw [q]; exact walk_1 l
    · omega
  · rcases key a b with q | q | q
    · omega
    · omega
    · exact absurd l q.2.2
