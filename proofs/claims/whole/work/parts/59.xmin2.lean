/-! ===== X's minute: looking, going ===== -/
def SVl (k v k' o j : Nat) : Prop := k' = k ∧ (o = 27 ∨ ((o = 20 ∨ o = 21 ∨ o = 26) ∧ j = v) ∨ (o = 24 ∧ v * 8 ≤ j ∧ j < v * 8 + 8))
theorem SVl_V {k v : Nat} {a a' : mx_S} (e : kq (SVl k v) a a') : kq (SV k v) a a' := kq_mono e (fun k' o j q => ⟨q.1, by have := q.2; omega⟩)
theorem s_xlook {k : Nat} {h mt lw : Nat → Nat} (hb : HB h) {s : mx_S} {c hd : Cr} (hx : XP k h mt lw s) (x : XB k h c s) (hh : ∀ q, q < 8 → s k 27 q = hd q) {v p : Nat} (hv : v < h 6) (hp : p < h 4) : ∃ s', mx_sem 26 [mx_R k 16, mx_I (nI v), mx_I (nI p)] s = some (none, s') ∧ XB k h (lookC h mt c hd v p) s' ∧ (∀ q, q < 8 → s' k 27 q = fup hd p (hd p + 1) q) ∧ kq (SVl k v) s s' := by
  have h6 := hb.r6
  have h4 := hb.r4
  have hv30 : v < 30 := by omega
  have hp8 : p < 8 := by omega
  have xp := hx.pc p hp
  have gq : ∀ (f : Nat → Option mx_Rt), mx_g none (nI v * 8 + nI p) 240 f = f (v * 8 + p) := fun f => q_gx (by rw [q_lit, q_mul, q_add]) (by omega) (by decide)
  have out : ∀ i, i < 14 * v ∨ 14 * v + 14 ≤ i → lookC h mt c hd v p i = c i := fun i hi => lookC_o h mt c hd hp8 hi
  have fin : ∀ (y z : Int32), XB k h (fup (fup (fup c (14 * v + 5) y) (14 * v + 2) z) (14 * v + 6 + p) (c (14 * v + 6 + p) + 1)) (mx_up (mx_up (mx_up (mx_up s k 27 p (hd p + 1)) k 26 v y) k 20 v z) k 24 (v * 8 + p) (c (14 * v + 6 + p) + 1)) ∧ XB k h (fup (fup (fup (fup c (14 * v + 5) y) (14 * v + 2) z) (14 * v + 6 + p) (c (14 * v + 6 + p) + 1)) (14 * v + 3) (c (14 * v + 3) ||| bitI p)) (mx_up (mx_up (mx_up (mx_up (mx_up s k 27 p (hd p + 1)) k 26 v y) k 20 v z) k 24 (v * 8 + p) (c (14 * v + 6 + p) + 1)) k 21 v (c (14 * v + 3) ||| bitI p)) ∧ (∀ q, q < 8 → mx_up (mx_up (mx_up (mx_up s k 27 p (hd p + 1)) k 26 v y) k 20 v z) k 24 (v * 8 + p) (c (14 * v + 6 + p) + 1) k 27 q = fup hd p (hd p + 1) q) ∧ kq (SVl k v) s (mx_up (mx_up (mx_up (mx_up s k 27 p (hd p + 1)) k 26 v y) k 20 v z) k 24 (v * 8 + p) (c (14 * v + 6 + p) + 1)) := by
    intro y z
    have k1 : kq (SVl k v) s (mx_up (mx_up (mx_up (mx_up s k 27 p (hd p + 1)) k 26 v y) k 20 v z) k 24 (v * 8 + p) (c (14 * v + 6 + p) + 1)) := kq_up (kq_up (kq_up (kq_up kq_rf ⟨rfl, by omega⟩) ⟨rfl, by omega⟩) ⟨rfl, by omega⟩) ⟨rfl, by omega⟩
    have o1 : ∀ i, i < 14 * v ∨ 14 * v + 14 ≤ i → fup (fup (fup c (14 * v + 5) y) (14 * v + 2) z) (14 * v + 6 + p) (c (14 * v + 6 + p) + 1) i = c i := fun i hi => by rw [fup_o (by omega), fup_o (by omega), fup_o (by omega)]
    have c0 : fup (fup (fup c (14 * v + 5) y) (14 * v + 2) z) (14 * v + 6 + p) (c (14 * v + 6 + p) + 1) (14 * v) = c (14 * v) := by rw [fup_o (by omega), fup_o (by omega), fup_o (by omega)]
    have x1 : XB k h (fup (fup (fup c (14 * v + 5) y) (14 * v + 2) z) (14 * v + 6 + p) (c (14 * v + 6 + p) + 1)) (mx_up (mx_up (mx_up (mx_up s k 27 p (hd p + 1)) k 26 v y) k 20 v z) k 24 (v * 8 + p) (c (14 * v + 6 + p) + 1)) := by
      refine x.st hb hv o1 (SVl_V k1) ?_ ?_ ?_ ?_ ?_ ?_ (fun q hq => ?_) ?_ (fun r hr => ?_)
      · rw [c0, q_uo (by decide), q_uo (by decide), q_uo (by decide), q_uo (by decide)]; exact x.pl v hv
      · rw [fup_o (by omega), fup_o (by omega), fup_o (by omega), q_uo (by decide), q_uo (by decide), q_uo (by decide), q_uo (by decide)]; exact x.pa v hv
      · rw [fup_o (by omega), fup_s, q_uo (by decide), q_us]
      · rw [fup_o (by omega), fup_o (by omega), fup_o (by omega), q_uo (by decide), q_uo (by decide), q_uo (by decide), q_uo (by decide)]; exact x.dn v hv
      · rw [fup_o (by omega), fup_o (by omega), fup_o (by omega), q_uo (by decide), q_uo (by decide), q_uo (by decide), q_uo (by decide)]; exact x.ms v hv
      · rw [fup_o (by omega), fup_o (by omega), fup_s, q_uo (by decide), q_uo (by decide), q_us]
      · by_cases e : q = p
        · subst e; rw [fup_s, q_us]
        · rw [fup_o (by omega), fup_o (by omega), fup_o (by omega), q_uj (by omega), q_uo (by decide), q_uo (by decide), q_uo (by decide)]; exact x.lo v q hv hq
      · rw [q_uo (by decide), q_uo (by decide), q_uo (by decide), q_uo (by decide), cnt_sm hv o1 c0]; exact x.ou
      · rw [q_uo (by decide), q_uo (by decide), q_uo (by decide), q_uo (by decide), cnt_sm hv o1 c0]; exact x.ins r hr
    refine ⟨x1, ?_, ?_, k1⟩
    · have o2 : ∀ i, i < 14 * v ∨ 14 * v + 14 ≤ i → fup (fup (fup (fup c (14 * v + 5) y) (14 * v + 2) z) (14 * v + 6 + p) (c (14 * v + 6 + p) + 1)) (14 * v + 3) (c (14 * v + 3) ||| bitI p) i = fup (fup (fup c (14 * v + 5) y) (14 * v + 2) z) (14 * v + 6 + p) (c (14 * v + 6 + p) + 1) i := fun i hi => by rw [fup_o (by omega)]
      generalize hC : fup (fup (fup c (14 * v + 5) y) (14 * v + 2) z) (14 * v + 6 + p) (c (14 * v + 6 + p) + 1) = C at x1 o2 ⊢
      generalize hA : mx_up (mx_up (mx_up (mx_up s k 27 p (hd p + 1)) k 26 v y) k 20 v z) k 24 (v * 8 + p) (c (14 * v + 6 + p) + 1) = A at x1 ⊢
      have c3 : fup C (14 * v + 3) (c (14 * v + 3) ||| bitI p) (14 * v) = C (14 * v) := fup_o (by omega)
      refine x1.st hb hv o2 (kq_up kq_rf ⟨rfl, by omega⟩) ?_ ?_ ?_ ?_ ?_ ?_ (fun q hq => ?_) ?_ (fun r hr => ?_)
      · rw [c3, q_uo (by decide)]; exact x1.pl v hv
      · rw [fup_o (by omega), q_uo (by decide)]; exact x1.pa v hv
      · rw [fup_o (by omega), q_uo (by decide)]; exact x1.sa v hv
      · rw [fup_s, q_us]
      · rw [fup_o (by omega), q_uo (by decide)]; exact x1.ms v hv
      · rw [fup_o (by omega), q_uo (by decide)]; exact x1.la v hv
      · rw [fup_o (by omega), q_uo (by decide)]; exact x1.lo v q hv hq
      · rw [q_uo (by decide), cnt_sm hv o2 c3]; exact x1.ou
      · rw [q_uo (by decide), cnt_sm hv o2 c3]; exact x1.ins r hr
    · intro q hq
      rw [q_uo (by decide), q_uo (by decide), q_uo (by decide)]
      by_cases w : q = p
      · subst w; rw [q_us, fup_s]
      · rw [q_uj w, fup_o w]; exact hh q hq
  have tl : ∀ (y z : Int32) (r : Option mx_Rt) (A : mx_S), A = mx_up (mx_up (mx_up (mx_up s k 27 p (hd p + 1)) k 26 v y) k 20 v z) k 24 (v * 8 + p) (c (14 * v + 6 + p) + 1) → r = (if nI (mt p) ≤ c (14 * v + 6 + p) + 1 then (mx_g none (nI v) 30 fun j16 => mx_g none (nI v) 30 fun j17 => mx_w (mx_up A k 21 j17 ((A k 21 j16) ||| (((1 : Int32)) <<< (nI p &&& 31)))) fun s18 => some (none, s18)) else (if (A k 1 1) ≤ 0 then (some (none, A)) else (mx_g none (nI v * 8 + nI p) 240 fun j19 => if (A k 24 j19) < (A k 1 1) then (some (none, A)) else (mx_g none (nI v) 30 fun j20 => mx_g none (nI v) 30 fun j21 => mx_w (mx_up A k 21 j21 ((A k 21 j20) ||| (((1 : Int32)) <<< (nI p &&& 31)))) fun s22 => some (none, s22))))) → ∃ s', r = some (none, s') ∧ XB k h (if nI (mt p) ≤ c (14 * v + 6 + p) + 1 ∨ (¬ nI (h 1) ≤ 0 ∧ ¬ c (14 * v + 6 + p) + 1 < nI (h 1)) then fup (fup (fup (fup c (14 * v + 5) y) (14 * v + 2) z) (14 * v + 6 + p) (c (14 * v + 6 + p) + 1)) (14 * v + 3) (c (14 * v + 3) ||| bitI p) else fup (fup (fup c (14 * v + 5) y) (14 * v + 2) z) (14 * v + 6 + p) (c (14 * v + 6 + p) + 1)) s' ∧ (∀ q, q < 8 → s' k 27 q = fup hd p (hd p + 1) q) ∧ kq (SVl k v) s s' := by
    intro y z r A hA hr
    obtain ⟨f1, f2, f3, f4⟩ := fin y z
    have r1 : A k 1 1 = nI (h 1) := by rw [hA, q_uo (by decide), q_uo (by decide), q_uo (by decide), q_uo (by decide)]; exact hx.f1
    have r2 : A k 21 v = c (14 * v + 3) := by rw [hA, q_uo (by decide), q_uo (by decide), q_uo (by decide), q_uo (by decide)]; exact x.dn v hv
    have r3 : A k 24 (v * 8 + p) = c (14 * v + 6 + p) + 1 := by rw [hA, q_us]
    rw [r1, gq, r3, q_g hv30 (by decide), q_g hv30 (by decide), q_w, r2, show (1 : Int32) <<< (nI p &&& 31) = bitI p from rfl] at hr
    rw [← hA] at f1 f2 f3 f4
    by_cases q1 : nI (mt p) ≤ c (14 * v + 6 + p) + 1
    · rw [if_pos q1] at hr
      rw [if_pos (Or.inl q1)]
      refine ⟨_, hr, f2, fun q hq => ?_, kq_up f4 ⟨rfl, by omega⟩⟩
      rw [q_uo (by decide)]; exact f3 q hq
    · rw [if_neg q1] at hr
      by_cases q2 : nI (h 1) ≤ 0
      · rw [if_pos q2] at hr
        rw [if_neg (by rintro (w | w); exact q1 w; exact w.1 q2)]
        exact ⟨_, hr, f1, f3, f4⟩
      · rw [if_neg q2] at hr
        by_cases q3 : c (14 * v + 6 + p) + 1 < nI (h 1)
        · rw [if_pos q3] at hr
          rw [if_neg (by rintro (w | w); exact q1 w; exact w.2 q3)]
          exact ⟨_, hr, f1, f3, f4⟩
        · rw [if_neg q3] at hr
          rw [if_pos (Or.inr ⟨q2, q3⟩)]
          refine ⟨_, hr, f2, fun q hq => ?_, kq_up f4 ⟨rfl, by omega⟩⟩
          rw [q_uo (by decide)]; exact f3 q hq
  have r1 : ∀ y, mx_up (mx_up s k 27 p (hd p + 1)) k 26 v y k 20 v = c (14 * v + 2) := fun y => by rw [q_uo (by decide), q_uo (by decide)]; exact x.sa v hv
  have r2 : ∀ y, mx_up (mx_up s k 27 p (hd p + 1)) k 26 v y k 7 p = nI (h (41 + 2 * p)) := fun y => by rw [q_uo (by decide), q_uo (by decide)]; exact xp.2.1
  have r3 : ∀ y z, mx_up (mx_up (mx_up s k 27 p (hd p + 1)) k 26 v y) k 20 v z k 24 (v * 8 + p) = c (14 * v + 6 + p) := fun y z => by rw [q_uo (by decide), q_uo (by decide), q_uo (by decide)]; exact x.lo v p hv hp8
  have r4 : ∀ y z u, mx_up (mx_up (mx_up (mx_up s k 27 p (hd p + 1)) k 26 v y) k 20 v z) k 24 (v * 8 + p) u k 8 p = nI (mt p) := fun y z u => by rw [q_uo (by decide), q_uo (by decide), q_uo (by decide), q_uo (by decide)]; exact xp.2.2
  have hX := e_C_lookAt k (nI v) (nI p) s
  unfold lookC lookC1
  by_cases q : nI (h 0) ≤ hd p
  · rw [q_g hp8 (by decide), hx.f0, hh p hp8, if_pos q, q_g hp8 (by decide), q_g hp8 (by decide), hh p hp8, q_w, q_g hv30 (by decide), q_w, q_g hv30 (by decide), q_g hp8 (by decide), q_g hv30 (by decide), r1, r2, q_w, gq, gq, r3, q_w, gq, q_g hp8 (by decide), r4, q_us] at hX
    rw [if_pos q]
    exact tl _ _ _ _ rfl hX
  · rw [q_g hp8 (by decide), hx.f0, hh p hp8, if_neg q, q_g hp8 (by decide), q_g hp8 (by decide), hh p hp8, q_w, q_g hv30 (by decide), q_w, q_g hv30 (by decide), q_g hp8 (by decide), q_g hv30 (by decide), r1, r2, q_w, gq, gq, r3, q_w, gq, q_g hp8 (by decide), r4, q_us] at hX
    rw [if_neg q]
    exact tl _ _ _ _ rfl hX
theorem cnt_pos {c : Cr} {x : Int32} {v : Nat} : ∀ n, v < n → c (14 * v) = x → 1 ≤ cnt c x n
  | 0, h, _ => by omega
  | n + 1, h, e => by
    unfold cnt
    by_cases q : v = n
    · subst q; rw [if_pos e]; omega
    · have := cnt_pos n (by omega) e
      omega
theorem nxr_ne {h : Nat → Nat} (hb : HB h) {D : Nat → Nat → Nat} (hD : DS h D) {r t : Nat} (hr : r < h 2) (hn : nxr D (h 2) r t < h 2) : nxr D (h 2) r t ≠ r := fun e => by
  have h2 := hb.r2
  rcases nb_ok D r t (h 2) (by omega) with q | q
  · have : nxr D (h 2) r t = 1000 := q.1
    omega
  · have q1 : D r (nxr D (h 2) r t) = 1 := q.2.1
    rw [e, (DS_0 hD hr hr).mpr rfl] at q1
    omega
/-- once more the aim, where what he has done with is another -/
theorem s_reaim {k : Nat} {h mt lw : Nat → Nat} (hb : HB h) {D : Nat → Nat → Nat} (hD : DS h D) (hl : ∀ g, g < h 5 → lw g ≤ 2) {s : mx_S} {c : Cr} (hx : XP k h mt lw s) (hw : XW k (h 2) D s) (x : XB k h c s) {v r : Nat} {dn : Int32} (hv : v < h 6) (hr : r < h 2) (h0 : c (14 * v) = nI r) (ha : s k 23 v = vNo (aimF h D (lw (gO h v)) r dn)) : ∃ a', (mx_g (none : Option mx_Rt) (nI v) 30 fun j => if s k 21 j = dn then some (none, s) else (mx_bI none (mx_sem 20 [mx_R k 16, mx_I (nI v)] s) fun r27 s26 => mx_g none (nI v) 30 fun j28 => mx_w (mx_up s26 k 23 j28 r27) fun s29 => some (none, s29))) = some (none, a') ∧ XB k h c a' ∧ a' k 23 v = aV h lw D c v ∧ kq (fun k' o j => k' = k ∧ o = 23 ∧ j = v) s a' := by
  have h6 := hb.r6
  have h2 := hb.r2
  have ev : aV h lw D c v = vNo (aimF h D (lw (gO h v)) r (c (14 * v + 3))) := by
    unfold aV
    rw [h0, if_neg, rOf_n (by omega)]
    rintro (q | q)
    · exact nI_m1 (by omega) q
    · exact nI_m2 (by omega) q
  rw [q_g (show v < 30 by omega) (by decide), x.dn v hv]
  by_cases q : c (14 * v + 3) = dn
  · rw [if_pos q]
    exact ⟨s, rfl, x, by rw [ev, q]; exact ha, kq_rf⟩
  · rw [if_neg q, s_choose hb hD hx hw hl hv hr (x.gr v hv) ((x.pl v hv).trans h0) (x.dn v hv), q_bI, q_g (show v < 30 by omega) (by decide), q_w]
    refine ⟨_, rfl, x.st hb hv (fun _ _ => rfl) (kq_up kq_rf ⟨rfl, by omega⟩) ?_ ?_ ?_ ?_ ?_ ?_ (fun p hp => ?_) ?_ (fun r hr => ?_), by rw [q_us, ev], kq_up kq_rf ⟨rfl, rfl, rfl⟩⟩
    · rw [q_uo (by decide)]; exact x.pl v hv
    · rw [q_uo (by decide)]; exact x.pa v hv
    · rw [q_uo (by decide)]; exact x.sa v hv
    · rw [q_uo (by decide)]; exact x.dn v hv
    · rw [q_uo (by decide)]; exact x.ms v hv
    · rw [q_uo (by decide)]; exact x.la v hv
    · rw [q_uo (by decide)]; exact x.lo v p hv hp
    · rw [q_uo (by decide)]; exact x.ou
    · rw [q_uo (by decide)]; exact x.ins r hr
