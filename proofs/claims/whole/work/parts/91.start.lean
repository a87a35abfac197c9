theorem dL_0 : decode code 0 = .ok (.new 7, 3) := by decide +kernel
theorem dL_3 : decode code 3 = .ok (.dup, 1) := by decide +kernel
theorem dL_4 : decode code 4 = .ok (.invokespecial 9, 3) := by decide +kernel
theorem dL_7 : decode code 7 = .ok (.astore_n 1, 1) := by decide +kernel
theorem dL_8 : decode code 8 = .ok (.new 10, 3) := by decide +kernel
theorem dL_11 : decode code 11 = .ok (.dup, 1) := by decide +kernel
theorem dL_12 : decode code 12 = .ok (.invokespecial 12, 3) := by decide +kernel
theorem dL_15 : decode code 15 = .ok (.astore_n 2, 1) := by decide +kernel
theorem dL_16 : decode code 16 = .ok (.iconst 0, 1) := by decide +kernel
theorem dL_17 : decode code 17 = .ok (.istore_n 3, 1) := by decide +kernel
def dx_g (uX uM : Nat → Nat → Nat) (adK adV : Nat → Nat) (b : Nat) (D : va_G) (d : Nat → ClassId) (v : Value) : mx_G := (fun k o => if o < 39 then uX k o else if o < 55 then uM k o else if o = 55 then adK k else if o = 56 then adV k else b, D, d, v)
set_option maxRecDepth 100000 in
set_option maxHeartbeats 8000000 in
/-- from the entry, for every script of at most 3072 ints, the law comes to its end with true -/
theorem whole_start {p : Program} {e : Env} {s : State} {m : MethodId} {below : List Frame} {meth : Method} {c : Code} (l : Launch) {b L : Nat} {xs : Nat → Int32} (hL : L ≤ 3072) (C0 : lw_At p s m meth c b L xs) : W p l e room_1 s m #[Value.ref b] below meth c s.heap [] 0 0 (lw_Z below #[Value.ref b] s) (entryFrame m ([Value.ref b] : List Value).toArray 4) := by
  obtain ⟨hx, hb, hr, hml, hown, hts0, hX, hbl, hlocks, hgv⟩ := C0
  have hts : ∀ w ∈ lw_gd, w.before #[Value.ref b] s = true := fun w hw => hts0 w (List.mem_filter.mp hw).1
  have hfl : ∀ w ∈ dx_fl, w.before #[Value.ref b] s = true := flat_of_before _ hgv
  obtain ⟨A, hAe⟩ : ∃ A : Nat → Prop, A = fun q => s.heap.size ≤ q := ⟨_, rfl⟩
  have hA : ∀ q : Nat, s.heap.size ≤ q → A q := fun q h => by rw [hAe]; exact h
  have hAi : ∀ q : Nat, A q → s.heap.size ≤ q := fun q h => by rw [hAe] at h; exact h
  have hno : ∀ q : Nat, q < s.heap.size → ¬ A q := fun q h z => absurd (hAi q z) (Nat.not_le.mpr h)
  obtain ⟨D, d, hK⟩ := dx_K0 hts0
  obtain ⟨adK, adV, hSt, hStr⟩ := dx_strings hfl hno
  have hZ1 := va_Zof (A := A) (hts0 _ dx_ls1) (hts _ dx_li1) (va_eqi (hfl _ dx_g7)) hno
  obtain ⟨vS, hvS, hvr⟩ := Cond.isRef_spec (hfl _ dx_g8)
  have hZ2 := va_Zof (A := A) (hts0 _ dx_ls2) (hts _ dx_li2) hvS hno
  have hS : va_S A s.heap s.heap [] := va_S.rf
  have hP : va_P D vwCl [] s.heap := fun k q h => by simp at h
  have hD : va_D A [] := ⟨fun i j p q h => by simp at h, fun k q h => by simp at h⟩
  have hl := lv_entry ([.ref b]) (n := 4) (Nat.le_of_ble_eq_true rfl)
  rw [lg_entry_eq]
  generalize (lg_sl ([.ref b]) ++ List.replicate (4 - (lg_sl ([.ref b])).length) Slot.unset).toArray = ls at hl ⊢
  have hl : lv_has ls 4 [(0, .ref b)] := hl
  refine dx_new (own := R_law) (d := d) (k1 := 1) (n1 := 10) 7 (by decide) (fs := [.null, .null, .null, .null, .null, .null, .null, .null, .int 0, .int 0]) dx_df7 dxw_109 dxw_110 dxw_92 hown hx hb hts hK hP hD hS hA rfl rfl (Nat.le_of_ble_eq_true rfl) (Nat.le_of_ble_eq_true rfl) dL_0 (fun q1 H1 hP1 hD1 hS1 => ?_)
  refine lv_dup hx hb dL_3 rfl ?_
  refine dx_call (As := []) (st := [.ref q1, .ref q1]) (rest := [.ref q1]) (k1 := 137) (n1 := 3547) (own := R_law) (k_X7 l D d) (Or.inl dxw_111) dx_cw7 dxw_92 dxw_112 rfl ⟨by decide, by decide, dx_na7⟩ ⟨rfl, rfl⟩ ⟨Nat.le_of_ble_eq_true rfl, Nat.le_of_ble_eq_true rfl⟩ hown hx hb hts hml hl.1 hK hP1 hD1 hS1 hA rfl rfl (Nat.le_of_ble_eq_true rfl) (Nat.le_of_ble_eq_true rfl) rfl (Nat.le_of_ble_eq_true rfl) dL_4 (fun uX H2 locs2 hw2 hP2 hD2 hS2 => ?_)
  refine lv_astore_n (lv' := [(1, .ref q1), (0, .ref b)]) hx hb dL_7 rfl hl (by decide) rfl (fun ls hl => ?_)
  refine dx_new (own := R_law) (d := d) (k1 := 138) (n1 := 3580) 8 (by decide) (fs := [.int 0, .int 0, .null, .null, .null, .null, .null, .int 0, .null, .null, .null, .int 0, .int 0, .int 0, .int 0, .int 0, .int 0, .int 0, .int 0, .int 0, .null, .int 0, .int 0, .int 0, .null, .null, .null, .int 0, .null, .null, .null, .null, .int 0]) dx_df8 dxw_925 dxw_926 dxw_100 hown hx hb hts hK hP2 hD2 hS2 hA rfl rfl (Nat.le_of_ble_eq_true rfl) (Nat.le_of_ble_eq_true rfl) dL_8 (fun q2 H3 hP3 hD3 hS3 => ?_)
  refine lv_dup hx hb dL_11 rfl ?_
  refine dx_call (As := []) (st := [.ref q2, .ref q2]) (rest := [.ref q2]) (k1 := 154) (n1 := 6398) (own := R_law) (k_X8 l D d) (Or.inl dxw_927) dx_cw8 dxw_100 dxw_928 rfl ⟨by decide, by decide, dx_na8⟩ ⟨rfl, rfl⟩ ⟨Nat.le_of_ble_eq_true rfl, Nat.le_of_ble_eq_true rfl⟩ hown hx hb hts hml hl.1 hK hP3 hD3 hS3 hA rfl rfl (Nat.le_of_ble_eq_true rfl) (Nat.le_of_ble_eq_true rfl) rfl (Nat.le_of_ble_eq_true rfl) dL_12 (fun uM H4 locs4 hw4 hP4 hD4 hS4 => ?_)
  refine lv_astore_n (lv' := [(2, .ref q2), (1, .ref q1), (0, .ref b)]) hx hb dL_15 rfl hl (by decide) rfl (fun ls hl => ?_)
  refine lv_iconst (v := 0) hx hb dL_16 (by decide) ?_
  refine lv_istore_n (lv' := [(3, .int 0), (2, .ref q2), (1, .ref q1), (0, .ref b)]) hx hb dL_17 rfl hl (by decide) rfl (fun ls hl => ?_)
  have hw2 : uX 0 28 = q1 := hw2
  have hw4 : uM 0 39 = q2 := hw4
  obtain ⟨g, hg⟩ : ∃ g : mx_G, g = dx_g uX uM adK adV b D d vS := ⟨_, rfl⟩
  have gX : ∀ k o, o < 39 → g.1 k o = uX k o := fun k o h => by rw [hg]; exact if_pos h
  have gM : ∀ k o, 39 ≤ o → o < 55 → g.1 k o = uM k o := fun k o h h2 => by rw [hg]; show (if o < 39 then _ else _) = _; rw [if_neg (by omega), if_pos h2]
  have g1 : g.2.1 = D := by rw [hg]; rfl
  have g2 : g.2.2.1 = d := by rw [hg]; rfl
  have g3 : g.2.2.2 = vS := by rw [hg]; rfl
  have gS : (fun k => g.1 k mx_oS) = adK := by rw [hg]; rfl
  have gB : (fun k => g.1 k mx_oB) = adV := by rw [hg]; rfl
  have gb : g.1 0 mx_oX = b := by rw [hg]; rfl
  rw [List.nil_append, dx_world (g := g) (L := L) (xs := xs) g1 g2 gX gM] at hP4 hD4
  have hinj := dx_toInj hD4
  have hgA : ∀ a, mx_A g a → s.heap.size ≤ a := fun a h => hAi a (dx_toA hD4 a h)
  have hgA2 : ∀ a, mx_A g a → A a := fun a h => dx_toA hD4 a h
  rw [← g1] at hP4
  have hPg := dx_toP hP4
  have hSg : va_S (mx_A g) s.heap H4 [] := ⟨hS4.1, fun q h1 h2 => hS4.2.1 q h1 (hno q h1), fun _ h => by cases h⟩
  have hFx : mx_Fx g L xs s := by
    refine ⟨?_, ?_, fun k hk => ?_, hZ1.narrow hgA2, ?_, ?_, ?_, ?_, fun t ht => va_Nw.of rfl (hts0 _ (dx_nw2_in t ht))⟩
    · rw [g1]
      unfold mx_tys
      rw [g2]
      exact hK.1
    · rw [gS, gB]; exact hSt.narrow hgA2
    · refine vk_R.of (hts0 _ (dx_sr k hk)) ?_
      rw [show g.1 k mx_oS = adK k from congrFun gS k]
      exact hStr k hk
    · rw [g3]; exact hZ2.narrow hgA2
    · rw [gb]; exact hX
    · rw [gb]; exact hbl
    · rw [gb]; exact fun z => absurd (hgA b z) (Nat.not_le.mpr hbl)
  have nl40 : ∀ y', y' < 191 → mx_nl y' ≤ 40 := fun y' hy => by
    obtain ⟨-, -, -, -, -, -, -, h⟩ := mx_allP_at mx_tk_all hy
    exact h
  have C : mx_Cx p room_1 s m #[Value.ref b] c 154 6398 (mx_mC 191) (mx_nl 191) (mx_on 15) g L xs 191 := by
    refine ⟨hx, hb, hml, hown, hts, hFx, hinj, by rw [g3]; exact dx_cat hvr, ⟨Nat.le_of_ble_eq_true rfl, Nat.le_of_ble_eq_true rfl⟩, by omega, ⟨Nat.le_of_ble_eq_true rfl, Nat.le_of_ble_eq_true rfl⟩, fun y' hy => ⟨?_, ?_⟩⟩
    · show y' + 3 ≤ 2048
      omega
    · have := nl40 y' hy
      show 8 + (mx_nl y' + 11) + 100 * (y' + 2) ≤ 84000
      omega
  obtain ⟨σ2, hH⟩ := lw_H hL (L + 1) 0 (dx_s0 L xs) (by omega) (by omega) rfl (dx_INV L xs)
  obtain ⟨n, hn⟩ := (mx_LL_iff _ _ _ _ _ _).mp hH
  have k := mx_L_sd (l := l) (e := e) (below := below) (meth := meth) (Q := lw_Z below #[Value.ref b] s) C mx_t191 (r := (some (mx_I 1), σ2)) (E := mx_E 191) (fun pc v0 σ' H ls locs hr2 hP hS hrt => ?_) (fun y' as' σ' rr h' => ?_) n 11 _ _ hn
  · refine va_forget (fun q h => hAi _ (hS4.2.2 q h)) ?_
    refine k H4 ls [] hPg hSg ⟨hl.1, hl.2.1, fun i v hi => ?_⟩ (fun v hv => absurd hv List.not_mem_nil) (fun i v hi => ?_) ⟨rfl, fun j _ => rfl⟩
    · rcases (show i = 0 ∨ i = 1 ∨ i = 2 ∨ i = 3 ∨ 4 ≤ i by omega) with rfl | rfl | rfl | rfl | h4
      · cases hi
        have e0 : mx_rv g (mx_R 0 58) = .ref b := by show Value.ref (g.1 0 mx_oX) = _; rw [gb]
        rw [e0]; exact lv_at hl 3 rfl
      · cases hi
        have e0 : mx_rv g (mx_R 0 28) = .ref q1 := by show Value.ref (g.1 0 28) = _; rw [gX 0 28 (by decide), hw2]
        rw [e0]; exact lv_at hl 2 rfl
      · cases hi
        have e0 : mx_rv g (mx_R 0 39) = .ref q2 := by show Value.ref (g.1 0 39) = _; rw [gM 0 39 (by decide) (by decide), hw4]
        rw [e0]; exact lv_at hl 1 rfl
      · cases hi
        exact lv_at hl 0 rfl
      · obtain ⟨j, rfl⟩ : ∃ j, i = j + 4 := ⟨i - 4, by omega⟩
        cases hi
    · rcases (show i = 0 ∨ i = 1 ∨ i = 2 ∨ i = 3 ∨ 4 ≤ i by omega) with rfl | rfl | rfl | rfl | h4
      · cases hi; exact Or.inr (Or.inr (Or.inr ⟨rfl, rfl⟩))
      · cases hi; exact Or.inl (by decide)
      · cases hi; exact Or.inl (by decide)
      · cases hi; trivial
      · obtain ⟨j, rfl⟩ : ∃ j, i = j + 4 := ⟨i - 4, by omega⟩
        cases hi
  · cases hr2
    refine va_forget (fun q h => hgA _ (hS.2.2 q h)) (W.widen (k := 600000) (n := 7302249) (Nat.le_of_ble_eq_true rfl) (Nat.le_of_ble_eq_true rfl) ?_)
    exact lw_ret hx hb hr hlocks hrt.1
  · unfold mx_E at h'
    split at h'
    · rename_i hy'
      exact ⟨hy', mx_sd l hy' h', mx_semX y' as' σ' rr h'⟩
    · cases h'
