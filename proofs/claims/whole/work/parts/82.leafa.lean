def wPlan (d : Nat → ClassId) (a : Nat → Nat) : va_W := [(a 0, .inr (3, [.int 0, .int 0, .int 0, .ref (a 1), .int 0, .ref (a 2), .ref (a 3), .ref (a 4), .int 0, .ref (a 5), .ref (a 6), .ref (a 7), .int 0, .ref (a 8), .ref (a 9), .ref (a 10), .ref (a 11), .int 0])), (a 11, .inl (d 1, 6, .inl (fun _ => 0))), (a 10, .inl (d 1, 6, .inl (fun _ => 0))), (a 9, .inl (d 1, 6, .inl (fun _ => 0))), (a 8, .inl (d 1, 6, .inl (fun _ => 0))), (a 7, .inl (d 1, 8, .inl (fun _ => 0))), (a 6, .inl (d 1, 8, .inl (fun _ => 0))), (a 5, .inl (d 1, 8, .inl (fun _ => 0))), (a 4, .inl (d 1, 9, .inl (fun _ => 0))), (a 3, .inl (d 1, 9, .inl (fun _ => 0))), (a 2, .inl (d 1, 9, .inl (fun _ => 0))), (a 1, .inl (d 1, 6, .inl (fun _ => 0)))]
theorem dX3_init_0 : decode cX3_init 0 = .ok (.aload_n 0, 1) := by decide +kernel
theorem dX3_init_1 : decode cX3_init 1 = .ok (.invokespecial 3, 3) := by decide +kernel
theorem dX3_init_4 : decode cX3_init 4 = .ok (.aload_n 0, 1) := by decide +kernel
theorem dX3_init_5 : decode cX3_init 5 = .ok (.bipush 6, 2) := by decide +kernel
theorem dX3_init_7 : decode cX3_init 7 = .ok (.newarray .int, 2) := by decide +kernel
theorem dX3_init_9 : decode cX3_init 9 = .ok (.putfield 9, 3) := by decide +kernel
theorem dX3_init_12 : decode cX3_init 12 = .ok (.aload_n 0, 1) := by decide +kernel
theorem dX3_init_13 : decode cX3_init 13 = .ok (.bipush 9, 2) := by decide +kernel
theorem dX3_init_15 : decode cX3_init 15 = .ok (.newarray .int, 2) := by decide +kernel
theorem dX3_init_17 : decode cX3_init 17 = .ok (.putfield 15, 3) := by decide +kernel
theorem dX3_init_20 : decode cX3_init 20 = .ok (.aload_n 0, 1) := by decide +kernel
theorem dX3_init_21 : decode cX3_init 21 = .ok (.bipush 9, 2) := by decide +kernel
theorem dX3_init_23 : decode cX3_init 23 = .ok (.newarray .int, 2) := by decide +kernel
theorem dX3_init_25 : decode cX3_init 25 = .ok (.putfield 18, 3) := by decide +kernel
theorem dX3_init_28 : decode cX3_init 28 = .ok (.aload_n 0, 1) := by decide +kernel
theorem dX3_init_29 : decode cX3_init 29 = .ok (.bipush 9, 2) := by decide +kernel
theorem dX3_init_31 : decode cX3_init 31 = .ok (.newarray .int, 2) := by decide +kernel
theorem dX3_init_33 : decode cX3_init 33 = .ok (.putfield 21, 3) := by decide +kernel
theorem dX3_init_36 : decode cX3_init 36 = .ok (.aload_n 0, 1) := by decide +kernel
theorem dX3_init_37 : decode cX3_init 37 = .ok (.bipush 8, 2) := by decide +kernel
theorem dX3_init_39 : decode cX3_init 39 = .ok (.newarray .int, 2) := by decide +kernel
theorem dX3_init_41 : decode cX3_init 41 = .ok (.putfield 24, 3) := by decide +kernel
theorem dX3_init_44 : decode cX3_init 44 = .ok (.aload_n 0, 1) := by decide +kernel
theorem dX3_init_45 : decode cX3_init 45 = .ok (.bipush 8, 2) := by decide +kernel
theorem dX3_init_47 : decode cX3_init 47 = .ok (.newarray .int, 2) := by decide +kernel
theorem dX3_init_49 : decode cX3_init 49 = .ok (.putfield 27, 3) := by decide +kernel
theorem dX3_init_52 : decode cX3_init 52 = .ok (.aload_n 0, 1) := by decide +kernel
theorem dX3_init_53 : decode cX3_init 53 = .ok (.bipush 8, 2) := by decide +kernel
theorem dX3_init_55 : decode cX3_init 55 = .ok (.newarray .int, 2) := by decide +kernel
theorem dX3_init_57 : decode cX3_init 57 = .ok (.putfield 30, 3) := by decide +kernel
theorem dX3_init_60 : decode cX3_init 60 = .ok (.aload_n 0, 1) := by decide +kernel
theorem dX3_init_61 : decode cX3_init 61 = .ok (.bipush 6, 2) := by decide +kernel
theorem dX3_init_63 : decode cX3_init 63 = .ok (.newarray .int, 2) := by decide +kernel
theorem dX3_init_65 : decode cX3_init 65 = .ok (.putfield 33, 3) := by decide +kernel
theorem dX3_init_68 : decode cX3_init 68 = .ok (.aload_n 0, 1) := by decide +kernel
theorem dX3_init_69 : decode cX3_init 69 = .ok (.bipush 6, 2) := by decide +kernel
theorem dX3_init_71 : decode cX3_init 71 = .ok (.newarray .int, 2) := by decide +kernel
theorem dX3_init_73 : decode cX3_init 73 = .ok (.putfield 36, 3) := by decide +kernel
theorem dX3_init_76 : decode cX3_init 76 = .ok (.aload_n 0, 1) := by decide +kernel
theorem dX3_init_77 : decode cX3_init 77 = .ok (.bipush 6, 2) := by decide +kernel
theorem dX3_init_79 : decode cX3_init 79 = .ok (.newarray .int, 2) := by decide +kernel
theorem dX3_init_81 : decode cX3_init 81 = .ok (.putfield 39, 3) := by decide +kernel
theorem dX3_init_84 : decode cX3_init 84 = .ok (.aload_n 0, 1) := by decide +kernel
theorem dX3_init_85 : decode cX3_init 85 = .ok (.bipush 6, 2) := by decide +kernel
theorem dX3_init_87 : decode cX3_init 87 = .ok (.newarray .int, 2) := by decide +kernel
theorem dX3_init_89 : decode cX3_init 89 = .ok (.putfield 42, 3) := by decide +kernel
theorem dX3_init_92 : decode cX3_init 92 = .ok (.return_, 1) := by decide +kernel
set_option maxRecDepth 100000 in
set_option maxHeartbeats 8000000 in
theorem k_X3 (l : Launch) (D : va_G) (d : Nat → ClassId) : dx_C l yX3_init cX3_init 1 { frames := 2, cells := 11, slots := 81, locals := 40 } D d [] (.inr (3, [.int 0, .int 0, .int 0, .null, .int 0, .null, .null, .null, .int 0, .null, .null, .null, .int 0, .null, .null, .null, .null, .int 0])) (S := Nat → Nat) (fun q a => a 0 = q) (wPlan d) 11 81 := by
  intro h0 sz
  refine Met.ofW (cc := cX3_init) (maxL := 1) (ret := none) (by decide) rfl ?_
  intro p e s m args below meth c s₁ B hml hv
  obtain ⟨rfl, hsz, hP, hK⟩ := hv
  have hx := B.exec
  have hb := B.bytes
  have hr := B.returns
  have hts : ∀ w ∈ lw_gd, w.before _ s = true := fun w hw => atoms_spec (ws := Cond.code yX3_init cX3_init 1 none :: lw_gd) B.pre w (List.mem_cons_of_mem _ hw)
  have hown : s.vm.findClass RX3 = some m.cls := findClass_of_methodNamed B.named
  have hlocks := B.notSynchronized
  have hin : meth.name = "<init>" := (name_of_methodNamed B.named B.method).1
  subst hsz
  have hD : va_D (va_A [(h0, .inr (3, [.int 0, .int 0, .int 0, .null, .int 0, .null, .null, .null, .int 0, .null, .null, .null, .int 0, .null, .null, .null, .null, .int 0]))] s.heap.size) [(h0, .inr (3, [.int 0, .int 0, .int 0, .null, .int 0, .null, .null, .null, .int 0, .null, .null, .null, .int 0, .null, .null, .null, .null, .int 0]))] := dx_D1
  generalize hAe : va_A [(h0, .inr (3, [.int 0, .int 0, .int 0, .null, .int 0, .null, .null, .null, .int 0, .null, .null, .null, .int 0, .null, .null, .null, .null, .int 0]))] s.heap.size = A at hD ⊢
  have hA : ∀ q : Nat, s.heap.size ≤ q → A q := fun q h => by rw [← hAe]; exact Or.inr h
  have hS : va_S A s.heap s.heap [] := va_S.rf
  have hl := lv_entry ([.ref h0]) (n := 1) (Nat.le_of_ble_eq_true rfl)
  rw [lg_entry_eq]
  generalize (lg_sl ([.ref h0]) ++ List.replicate (1 - (lg_sl ([.ref h0])).length) Slot.unset).toArray = ls at hl ⊢
  have hl : lv_has ls 1 [(0, .ref h0)] := hl
  refine lv_aload_n hx hb dX3_init_0 rfl (lv_at hl 0 rfl) ?_
  refine dx_obj (own := RX3) dxw_165 hown hx hb hts hml hl.1 (Nat.le_of_ble_eq_true rfl) (Nat.le_of_ble_eq_true rfl) dX3_init_1 ?_
  refine lv_aload_n hx hb dX3_init_4 rfl (lv_at hl 0 rfl) ?_
  refine lv_bipush (v := 6) hx hb dX3_init_5 (by decide) ?_
  refine dx_newi (d := d) (N := 6) (k1 := 1) (n1 := 6) hx hb hts hK hP hD hS hA (by decide) (by decide) (by decide) rfl rfl (Nat.le_of_ble_eq_true rfl) (Nat.le_of_ble_eq_true rfl) dX3_init_7 (fun q1 H hP hD hS => ?_)
  have hP := dx_insP1 hP
  have hD := dx_insD1 hD
  have hP : va_P D vwCl ((h0, .inr (3, [.int 0, .int 0, .int 0, .null, .int 0, .null, .null, .null, .int 0, .null, .null, .null, .int 0, .null, .null, .null, .null, .int 0])) :: ((q1, .inl (d 1, 6, .inl (fun _ => 0))) :: [])) _ := hP
  have hD : va_D A ((h0, .inr (3, [.int 0, .int 0, .int 0, .null, .int 0, .null, .null, .null, .int 0, .null, .null, .null, .int 0, .null, .null, .null, .null, .int 0])) :: ((q1, .inl (d 1, 6, .inl (fun _ => 0))) :: [])) := hD
  refine dx_putF (own := RX3) 3 3 (by decide) (by decide) dxw_179 (by decide +kernel) (by decide +kernel) (v := .ref q1) (by rw [dx_ty3_3]; rfl) (by rw [dx_ty3_3]; rfl) hown hin hx hb hts hK hP hD hS 0 (fs := [.int 0, .int 0, .int 0, .null, .int 0, .null, .null, .null, .int 0, .null, .null, .null, .int 0, .null, .null, .null, .null, .int 0]) rfl (Nat.le_of_ble_eq_true rfl) dX3_init_9 (fun H locs hP hD hS => ?_)
  have hP : va_P D vwCl ((h0, .inr (3, [.int 0, .int 0, .int 0, .ref q1, .int 0, .null, .null, .null, .int 0, .null, .null, .null, .int 0, .null, .null, .null, .null, .int 0])) :: ((q1, .inl (d 1, 6, .inl (fun _ => 0))) :: [])) _ := hP
  have hD : va_D A ((h0, .inr (3, [.int 0, .int 0, .int 0, .ref q1, .int 0, .null, .null, .null, .int 0, .null, .null, .null, .int 0, .null, .null, .null, .null, .int 0])) :: ((q1, .inl (d 1, 6, .inl (fun _ => 0))) :: [])) := hD
  refine lv_aload_n hx hb dX3_init_12 rfl (lv_at hl 0 rfl) ?_
  refine lv_bipush (v := 9) hx hb dX3_init_13 (by decide) ?_
  refine dx_newi (d := d) (N := 9) (k1 := 2) (n1 := 15) hx hb hts hK hP hD hS hA (by decide) (by decide) (by decide) rfl rfl (Nat.le_of_ble_eq_true rfl) (Nat.le_of_ble_eq_true rfl) dX3_init_15 (fun q2 H hP hD hS => ?_)
  have hP := dx_insP1 hP
  have hD := dx_insD1 hD
  have hP : va_P D vwCl ((h0, .inr (3, [.int 0, .int 0, .int 0, .ref q1, .int 0, .null, .null, .null, .int 0, .null, .null, .null, .int 0, .null, .null, .null, .null, .int 0])) :: ((q2, .inl (d 1, 9, .inl (fun _ => 0))) :: ((q1, .inl (d 1, 6, .inl (fun _ => 0))) :: []))) _ := hP
  have hD : va_D A ((h0, .inr (3, [.int 0, .int 0, .int 0, .ref q1, .int 0, .null, .null, .null, .int 0, .null, .null, .null, .int 0, .null, .null, .null, .null, .int 0])) :: ((q2, .inl (d 1, 9, .inl (fun _ => 0))) :: ((q1, .inl (d 1, 6, .inl (fun _ => 0))) :: []))) := hD
  refine dx_putF (own := RX3) 3 5 (by decide) (by decide) dxw_185 (by decide +kernel) (by decide +kernel) (v := .ref q2) (by rw [dx_ty3_5]; rfl) (by rw [dx_ty3_5]; rfl) hown hin hx hb hts hK hP hD hS 0 (fs := [.int 0, .int 0, .int 0, .ref q1, .int 0, .null, .null, .null, .int 0, .null, .null, .null, .int 0, .null, .null, .null, .null, .int 0]) rfl (Nat.le_of_ble_eq_true rfl) dX3_init_17 (fun H locs hP hD hS => ?_)
  have hP : va_P D vwCl ((h0, .inr (3, [.int 0, .int 0, .int 0, .ref q1, .int 0, .ref q2, .null, .null, .int 0, .null, .null, .null, .int 0, .null, .null, .null, .null, .int 0])) :: ((q2, .inl (d 1, 9, .inl (fun _ => 0))) :: ((q1, .inl (d 1, 6, .inl (fun _ => 0))) :: []))) _ := hP
  have hD : va_D A ((h0, .inr (3, [.int 0, .int 0, .int 0, .ref q1, .int 0, .ref q2, .null, .null, .int 0, .null, .null, .null, .int 0, .null, .null, .null, .null, .int 0])) :: ((q2, .inl (d 1, 9, .inl (fun _ => 0))) :: ((q1, .inl (d 1, 6, .inl (fun _ => 0))) :: []))) := hD
  refine lv_aload_n hx hb dX3_init_20 rfl (lv_at hl 0 rfl) ?_
  refine lv_bipush (v := 9) hx hb dX3_init_21 (by decide) ?_
  refine dx_newi (d := d) (N := 9) (k1 := 3) (n1 := 24) hx hb hts hK hP hD hS hA (by decide) (by decide) (by decide) rfl rfl (Nat.le_of_ble_eq_true rfl) (Nat.le_of_ble_eq_true rfl) dX3_init_23 (fun q3 H hP hD hS => ?_)
  have hP := dx_insP1 hP
  have hD := dx_insD1 hD
  have hP : va_P D vwCl ((h0, .inr (3, [.int 0, .int 0, .int 0, .ref q1, .int 0, .ref q2, .null, .null, .int 0, .null, .null, .null, .int 0, .null, .null, .null, .null, .int 0])) :: ((q3, .inl (d 1, 9, .inl (fun _ => 0))) :: ((q2, .inl (d 1, 9, .inl (fun _ => 0))) :: ((q1, .inl (d 1, 6, .inl (fun _ => 0))) :: [])))) _ := hP
  have hD : va_D A ((h0, .inr (3, [.int 0, .int 0, .int 0, .ref q1, .int 0, .ref q2, .null, .null, .int 0, .null, .null, .null, .int 0, .null, .null, .null, .null, .int 0])) :: ((q3, .inl (d 1, 9, .inl (fun _ => 0))) :: ((q2, .inl (d 1, 9, .inl (fun _ => 0))) :: ((q1, .inl (d 1, 6, .inl (fun _ => 0))) :: [])))) := hD
  refine dx_putF (own := RX3) 3 6 (by decide) (by decide) dxw_187 (by decide +kernel) (by decide +kernel) (v := .ref q3) (by rw [dx_ty3_6]; rfl) (by rw [dx_ty3_6]; rfl) hown hin hx hb hts hK hP hD hS 0 (fs := [.int 0, .int 0, .int 0, .ref q1, .int 0, .ref q2, .null, .null, .int 0, .null, .null, .null, .int 0, .null, .null, .null, .null, .int 0]) rfl (Nat.le_of_ble_eq_true rfl) dX3_init_25 (fun H locs hP hD hS => ?_)
  have hP : va_P D vwCl ((h0, .inr (3, [.int 0, .int 0, .int 0, .ref q1, .int 0, .ref q2, .ref q3, .null, .int 0, .null, .null, .null, .int 0, .null, .null, .null, .null, .int 0])) :: ((q3, .inl (d 1, 9, .inl (fun _ => 0))) :: ((q2, .inl (d 1, 9, .inl (fun _ => 0))) :: ((q1, .inl (d 1, 6, .inl (fun _ => 0))) :: [])))) _ := hP
  have hD : va_D A ((h0, .inr (3, [.int 0, .int 0, .int 0, .ref q1, .int 0, .ref q2, .ref q3, .null, .int 0, .null, .null, .null, .int 0, .null, .null, .null, .null, .int 0])) :: ((q3, .inl (d 1, 9, .inl (fun _ => 0))) :: ((q2, .inl (d 1, 9, .inl (fun _ => 0))) :: ((q1, .inl (d 1, 6, .inl (fun _ => 0))) :: [])))) := hD
  refine lv_aload_n hx hb dX3_init_28 rfl (lv_at hl 0 rfl) ?_
  refine lv_bipush (v := 9) hx hb dX3_init_29 (by decide) ?_
  refine dx_newi (d := d) (N := 9) (k1 := 4) (n1 := 33) hx hb hts hK hP hD hS hA (by decide) (by decide) (by decide) rfl rfl (Nat.le_of_ble_eq_true rfl) (Nat.le_of_ble_eq_true rfl) dX3_init_31 (fun q4 H hP hD hS => ?_)
  have hP := dx_insP1 hP
  have hD := dx_insD1 hD
  have hP : va_P D vwCl ((h0, .inr (3, [.int 0, .int 0, .int 0, .ref q1, .int 0, .ref q2, .ref q3, .null, .int 0, .null, .null, .null, .int 0, .null, .null, .null, .null, .int 0])) :: ((q4, .inl (d 1, 9, .inl (fun _ => 0))) :: ((q3, .inl (d 1, 9, .inl (fun _ => 0))) :: ((q2, .inl (d 1, 9, .inl (fun _ => 0))) :: ((q1, .inl (d 1, 6, .inl (fun _ => 0))) :: []))))) _ := hP
  have hD : va_D A ((h0, .inr (3, [.int 0, .int 0, .int 0, .ref q1, .int 0, .ref q2, .ref q3, .null, .int 0, .null, .null, .null, .int 0, .null, .null, .null, .null, .int 0])) :: ((q4, .inl (d 1, 9, .inl (fun _ => 0))) :: ((q3, .inl (d 1, 9, .inl (fun _ => 0))) :: ((q2, .inl (d 1, 9, .inl (fun _ => 0))) :: ((q1, .inl (d 1, 6, .inl (fun _ => 0))) :: []))))) := hD
  refine dx_putF (own := RX3) 3 7 (by decide) (by decide) dxw_189 (by decide +kernel) (by decide +kernel) (v := .ref q4) (by rw [dx_ty3_7]; rfl) (by rw [dx_ty3_7]; rfl) hown hin hx hb hts hK hP hD hS 0 (fs := [.int 0, .int 0, .int 0, .ref q1, .int 0, .ref q2, .ref q3, .null, .int 0, .null, .null, .null, .int 0, .null, .null, .null, .null, .int 0]) rfl (Nat.le_of_ble_eq_true rfl) dX3_init_33 (fun H locs hP hD hS => ?_)
  have hP : va_P D vwCl ((h0, .inr (3, [.int 0, .int 0, .int 0, .ref q1, .int 0, .ref q2, .ref q3, .ref q4, .int 0, .null, .null, .null, .int 0, .null, .null, .null, .null, .int 0])) :: ((q4, .inl (d 1, 9, .inl (fun _ => 0))) :: ((q3, .inl (d 1, 9, .inl (fun _ => 0))) :: ((q2, .inl (d 1, 9, .inl (fun _ => 0))) :: ((q1, .inl (d 1, 6, .inl (fun _ => 0))) :: []))))) _ := hP
  have hD : va_D A ((h0, .inr (3, [.int 0, .int 0, .int 0, .ref q1, .int 0, .ref q2, .ref q3, .ref q4, .int 0, .null, .null, .null, .int 0, .null, .null, .null, .null, .int 0])) :: ((q4, .inl (d 1, 9, .inl (fun _ => 0))) :: ((q3, .inl (d 1, 9, .inl (fun _ => 0))) :: ((q2, .inl (d 1, 9, .inl (fun _ => 0))) :: ((q1, .inl (d 1, 6, .inl (fun _ => 0))) :: []))))) := hD
  refine lv_aload_n hx hb dX3_init_36 rfl (lv_at hl 0 rfl) ?_
  refine lv_bipush (v := 8) hx hb dX3_init_37 (by decide) ?_
  refine dx_newi (d := d) (N := 8) (k1 := 5) (n1 := 41) hx hb hts hK hP hD hS hA (by decide) (by decide) (by decide) rfl rfl (Nat.le_of_ble_eq_true rfl) (Nat.le_of_ble_eq_true rfl) dX3_init_39 (fun q5 H hP hD hS => ?_)
  have hP := dx_insP1 hP
  have hD := dx_insD1 hD
  have hP : va_P D vwCl ((h0, .inr (3, [.int 0, .int 0, .int 0, .ref q1, .int 0, .ref q2, .ref q3, .ref q4, .int 0, .null, .null, .null, .int 0, .null, .null, .null, .null, .int 0])) :: ((q5, .inl (d 1, 8, .inl (fun _ => 0))) :: ((q4, .inl (d 1, 9, .inl (fun _ => 0))) :: ((q3, .inl (d 1, 9, .inl (fun _ => 0))) :: ((q2, .inl (d 1, 9, .inl (fun _ => 0))) :: ((q1, .inl (d 1, 6, .inl (fun _ => 0))) :: [])))))) _ := hP
  have hD : va_D A ((h0, .inr (3, [.int 0, .int 0, .int 0, .ref q1, .int 0, .ref q2, .ref q3, .ref q4, .int 0, .null, .null, .null, .int 0, .null, .null, .null, .null, .int 0])) :: ((q5, .inl (d 1, 8, .inl (fun _ => 0))) :: ((q4, .inl (d 1, 9, .inl (fun _ => 0))) :: ((q3, .inl (d 1, 9, .inl (fun _ => 0))) :: ((q2, .inl (d 1, 9, .inl (fun _ => 0))) :: ((q1, .inl (d 1, 6, .inl (fun _ => 0))) :: [])))))) := hD
  refine dx_putF (own := RX3) 3 9 (by decide) (by decide) dxw_195 (by decide +kernel) (by decide +kernel) (v := .ref q5) (by rw [dx_ty3_9]; rfl) (by rw [dx_ty3_9]; rfl) hown hin hx hb hts hK hP hD hS 0 (fs := [.int 0, .int 0, .int 0, .ref q1, .int 0, .ref q2, .ref q3, .ref q4, .int 0, .null, .null, .null, .int 0, .null, .null, .null, .null, .int 0]) rfl (Nat.le_of_ble_eq_true rfl) dX3_init_41 (fun H locs hP hD hS => ?_)
  have hP : va_P D vwCl ((h0, .inr (3, [.int 0, .int 0, .int 0, .ref q1, .int 0, .ref q2, .ref q3, .ref q4, .int 0, .ref q5, .null, .null, .int 0, .null, .null, .null, .null, .int 0])) :: ((q5, .inl (d 1, 8, .inl (fun _ => 0))) :: ((q4, .inl (d 1, 9, .inl (fun _ => 0))) :: ((q3, .inl (d 1, 9, .inl (fun _ => 0))) :: ((q2, .inl (d 1, 9, .inl (fun _ => 0))) :: ((q1, .inl (d 1, 6, .inl (fun _ => 0))) :: [])))))) _ := hP
  have hD : va_D A ((h0, .inr (3, [.int 0, .int 0, .int 0, .ref q1, .int 0, .ref q2, .ref q3, .ref q4, .int 0, .ref q5, .null, .null, .int 0, .null, .null, .null, .null, .int 0])) :: ((q5, .inl (d 1, 8, .inl (fun _ => 0))) :: ((q4, .inl (d 1, 9, .inl (fun _ => 0))) :: ((q3, .inl (d 1, 9, .inl (fun _ => 0))) :: ((q2, .inl (d 1, 9, .inl (fun _ => 0))) :: ((q1, .inl (d 1, 6, .inl (fun _ => 0))) :: [])))))) := hD
  refine lv_aload_n hx hb dX3_init_44 rfl (lv_at hl 0 rfl) ?_
  refine lv_bipush (v := 8) hx hb dX3_init_45 (by decide) ?_
  refine dx_newi (d := d) (N := 8) (k1 := 6) (n1 := 49) hx hb hts hK hP hD hS hA (by decide) (by decide) (by decide) rfl rfl (Nat.le_of_ble_eq_true rfl) (Nat.le_of_ble_eq_true rfl) dX3_init_47 (fun q6 H hP hD hS => ?_)
  have hP := dx_insP1 hP
  have hD := dx_insD1 hD
  have hP : va_P D vwCl ((h0, .inr (3, [.int 0, .int 0, .int 0, .ref q1, .int 0, .ref q2, .ref q3, .ref q4, .int 0, .ref q5, .null, .null, .int 0, .null, .null, .null, .null, .int 0])) :: ((q6, .inl (d 1, 8, .inl (fun _ => 0))) :: ((q5, .inl (d 1, 8, .inl (fun _ => 0))) :: ((q4, .inl (d 1, 9, .inl (fun _ => 0))) :: ((q3, .inl (d 1, 9, .inl (fun _ => 0))) :: ((q2, .inl (d 1, 9, .inl (fun _ => 0))) :: ((q1, .inl (d 1, 6, .inl (fun _ => 0))) :: []))))))) _ := hP
  have hD : va_D A ((h0, .inr (3, [.int 0, .int 0, .int 0, .ref q1, .int 0, .ref q2, .ref q3, .ref q4, .int 0, .ref q5, .null, .null, .int 0, .null, .null, .null, .null, .int 0])) :: ((q6, .inl (d 1, 8, .inl (fun _ => 0))) :: ((q5, .inl (d 1, 8, .inl (fun _ => 0))) :: ((q4, .inl (d 1, 9, .inl (fun _ => 0))) :: ((q3, .inl (d 1, 9, .inl (fun _ => 0))) :: ((q2, .inl (d 1, 9, .inl (fun _ => 0))) :: ((q1, .inl (d 1, 6, .inl (fun _ => 0))) :: []))))))) := hD
  refine dx_putF (own := RX3) 3 10 (by decide) (by decide) dxw_198 (by decide +kernel) (by decide +kernel) (v := .ref q6) (by rw [dx_ty3_10]; rfl) (by rw [dx_ty3_10]; rfl) hown hin hx hb hts hK hP hD hS 0 (fs := [.int 0, .int 0, .int 0, .ref q1, .int 0, .ref q2, .ref q3, .ref q4, .int 0, .ref q5, .null, .null, .int 0, .null, .null, .null, .null, .int 0]) rfl (Nat.le_of_ble_eq_true rfl) dX3_init_49 (fun H locs hP hD hS => ?_)
  have hP : va_P D vwCl ((h0, .inr (3, [.int 0, .int 0, .int 0, .ref q1, .int 0, .ref q2, .ref q3, .ref q4, .int 0, .ref q5, .ref q6, .null, .int 0, .null, .null, .null, .null, .int 0])) :: ((q6, .inl (d 1, 8, .inl (fun _ => 0))) :: ((q5, .inl (d 1, 8, .inl (fun _ => 0))) :: ((q4, .inl (d 1, 9, .inl (fun _ => 0))) :: ((q3, .inl (d 1, 9, .inl (fun _ => 0))) :: ((q2, .inl (d 1, 9, .inl (fun _ => 0))) :: ((q1, .inl (d 1, 6, .inl (fun _ => 0))) :: []))))))) _ := hP
  have hD : va_D A ((h0, .inr (3, [.int 0, .int 0, .int 0, .ref q1, .int 0, .ref q2, .ref q3, .ref q4, .int 0, .ref q5, .ref q6, .null, .int 0, .null, .null, .null, .null, .int 0])) :: ((q6, .inl (d 1, 8, .inl (fun _ => 0))) :: ((q5, .inl (d 1, 8, .inl (fun _ => 0))) :: ((q4, .inl (d 1, 9, .inl (fun _ => 0))) :: ((q3, .inl (d 1, 9, .inl (fun _ => 0))) :: ((q2, .inl (d 1, 9, .inl (fun _ => 0))) :: ((q1, .inl (d 1, 6, .inl (fun _ => 0))) :: []))))))) := hD
  refine lv_aload_n hx hb dX3_init_52 rfl (lv_at hl 0 rfl) ?_
  refine lv_bipush (v := 8) hx hb dX3_init_53 (by decide) ?_
  refine dx_newi (d := d) (N := 8) (k1 := 7) (n1 := 57) hx hb hts hK hP hD hS hA (by decide) (by decide) (by decide) rfl rfl (Nat.le_of_ble_eq_true rfl) (Nat.le_of_ble_eq_true rfl) dX3_init_55 (fun q7 H hP hD hS => ?_)
  have hP := dx_insP1 hP
  have hD := dx_insD1 hD
  have hP : va_P D vwCl ((h0, .inr (3, [.int 0, .int 0, .int 0, .ref q1, .int 0, .ref q2, .ref q3, .ref q4, .int 0, .ref q5, .ref q6, .null, .int 0, .null, .null, .null, .null, .int 0])) :: ((q7, .inl (d 1, 8, .inl (fun _ => 0))) :: ((q6, .inl (d 1, 8, .inl (fun _ => 0))) :: ((q5, .inl (d 1, 8, .inl (fun _ => 0))) :: ((q4, .inl (d 1, 9, .inl (fun _ => 0))) :: ((q3, .inl (d 1, 9, .inl (fun _ => 0))) :: ((q2, .inl (d 1, 9, .inl (fun _ => 0))) :: ((q1, .inl (d 1, 6, .inl (fun _ => 0))) :: [])))))))) _ := hP
  have hD : va_D A ((h0, .inr (3, [.int 0, .int 0, .int 0, .ref q1, .int 0, .ref q2, .ref q3, .ref q4, .int 0, .ref q5, .ref q6, .null, .int 0, .null, .null, .null, .null, .int 0])) :: ((q7, .inl (d 1, 8, .inl (fun _ => 0))) :: ((q6, .inl (d 1, 8, .inl (fun _ => 0))) :: ((q5, .inl (d 1, 8, .inl (fun _ => 0))) :: ((q4, .inl (d 1, 9, .inl (fun _ => 0))) :: ((q3, .inl (d 1, 9, .inl (fun _ => 0))) :: ((q2, .inl (d 1, 9, .inl (fun _ => 0))) :: ((q1, .inl (d 1, 6, .inl (fun _ => 0))) :: [])))))))) := hD
  refine dx_putF (own := RX3) 3 11 (by decide) (by decide) dxw_200 (by decide +kernel) (by decide +kernel) (v := .ref q7) (by rw [dx_ty3_11]; rfl) (by rw [dx_ty3_11]; rfl) hown hin hx hb hts hK hP hD hS 0 (fs := [.int 0, .int 0, .int 0, .ref q1, .int 0, .ref q2, .ref q3, .ref q4, .int 0, .ref q5, .ref q6, .null, .int 0, .null, .null, .null, .null, .int 0]) rfl (Nat.le_of_ble_eq_true rfl) dX3_init_57 (fun H locs hP hD hS => ?_)
  have hP : va_P D vwCl ((h0, .inr (3, [.int 0, .int 0, .int 0, .ref q1, .int 0, .ref q2, .ref q3, .ref q4, .int 0, .ref q5, .ref q6, .ref q7, .int 0, .null, .null, .null, .null, .int 0])) :: ((q7, .inl (d 1, 8, .inl (fun _ => 0))) :: ((q6, .inl (d 1, 8, .inl (fun _ => 0))) :: ((q5, .inl (d 1, 8, .inl (fun _ => 0))) :: ((q4, .inl (d 1, 9, .inl (fun _ => 0))) :: ((q3, .inl (d 1, 9, .inl (fun _ => 0))) :: ((q2, .inl (d 1, 9, .inl (fun _ => 0))) :: ((q1, .inl (d 1, 6, .inl (fun _ => 0))) :: [])))))))) _ := hP
  have hD : va_D A ((h0, .inr (3, [.int 0, .int 0, .int 0, .ref q1, .int 0, .ref q2, .ref q3, .ref q4, .int 0, .ref q5, .ref q6, .ref q7, .int 0, .null, .null, .null, .null, .int 0])) :: ((q7, .inl (d 1, 8, .inl (fun _ => 0))) :: ((q6, .inl (d 1, 8, .inl (fun _ => 0))) :: ((q5, .inl (d 1, 8, .inl (fun _ => 0))) :: ((q4, .inl (d 1, 9, .inl (fun _ => 0))) :: ((q3, .inl (d 1, 9, .inl (fun _ => 0))) :: ((q2, .inl (d 1, 9, .inl (fun _ => 0))) :: ((q1, .inl (d 1, 6, .inl (fun _ => 0))) :: [])))))))) := hD
  refine lv_aload_n hx hb dX3_init_60 rfl (lv_at hl 0 rfl) ?_
  refine lv_bipush (v := 6) hx hb dX3_init_61 (by decide) ?_
  refine dx_newi (d := d) (N := 6) (k1 := 8) (n1 := 63) hx hb hts hK hP hD hS hA (by decide) (by decide) (by decide) rfl rfl (Nat.le_of_ble_eq_true rfl) (Nat.le_of_ble_eq_true rfl) dX3_init_63 (fun q8 H hP hD hS => ?_)
  have hP := dx_insP1 hP
  have hD := dx_insD1 hD
  have hP : va_P D vwCl ((h0, .inr (3, [.int 0, .int 0, .int 0, .ref q1, .int 0, .ref q2, .ref q3, .ref q4, .int 0, .ref q5, .ref q6, .ref q7, .int 0, .null, .null, .null, .null, .int 0])) :: ((q8, .inl (d 1, 6, .inl (fun _ => 0))) :: ((q7, .inl (d 1, 8, .inl (fun _ => 0))) :: ((q6, .inl (d 1, 8, .inl (fun _ => 0))) :: ((q5, .inl (d 1, 8, .inl (fun _ => 0))) :: ((q4, .inl (d 1, 9, .inl (fun _ => 0))) :: ((q3, .inl (d 1, 9, .inl (fun _ => 0))) :: ((q2, .inl (d 1, 9, .inl (fun _ => 0))) :: ((q1, .inl (d 1, 6, .inl (fun _ => 0))) :: []))))))))) _ := hP
  have hD : va_D A ((h0, .inr (3, [.int 0, .int 0, .int 0, .ref q1, .int 0, .ref q2, .ref q3, .ref q4, .int 0, .ref q5, .ref q6, .ref q7, .int 0, .null, .null, .null, .null, .int 0])) :: ((q8, .inl (d 1, 6, .inl (fun _ => 0))) :: ((q7, .inl (d 1, 8, .inl (fun _ => 0))) :: ((q6, .inl (d 1, 8, .inl (fun _ => 0))) :: ((q5, .inl (d 1, 8, .inl (fun _ => 0))) :: ((q4, .inl (d 1, 9, .inl (fun _ => 0))) :: ((q3, .inl (d 1, 9, .inl (fun _ => 0))) :: ((q2, .inl (d 1, 9, .inl (fun _ => 0))) :: ((q1, .inl (d 1, 6, .inl (fun _ => 0))) :: []))))))))) := hD
  refine dx_putF (own := RX3) 3 13 (by decide) (by decide) dxw_206 (by decide +kernel) (by decide +kernel) (v := .ref q8) (by rw [dx_ty3_13]; rfl) (by rw [dx_ty3_13]; rfl) hown hin hx hb hts hK hP hD hS 0 (fs := [.int 0, .int 0, .int 0, .ref q1, .int 0, .ref q2, .ref q3, .ref q4, .int 0, .ref q5, .ref q6, .ref q7, .int 0, .null, .null, .null, .null, .int 0]) rfl (Nat.le_of_ble_eq_true rfl) dX3_init_65 (fun H locs hP hD hS => ?_)
  have hP : va_P D vwCl ((h0, .inr (3, [.int 0, .int 0, .int 0, .ref q1, .int 0, .ref q2, .ref q3, .ref q4, .int 0, .ref q5, .ref q6, .ref q7, .int 0, .ref q8, .null, .null, .null, .int 0])) :: ((q8, .inl (d 1, 6, .inl (fun _ => 0))) :: ((q7, .inl (d 1, 8, .inl (fun _ => 0))) :: ((q6, .inl (d 1, 8, .inl (fun _ => 0))) :: ((q5, .inl (d 1, 8, .inl (fun _ => 0))) :: ((q4, .inl (d 1, 9, .inl (fun _ => 0))) :: ((q3, .inl (d 1, 9, .inl (fun _ => 0))) :: ((q2, .inl (d 1, 9, .inl (fun _ => 0))) :: ((q1, .inl (d 1, 6, .inl (fun _ => 0))) :: []))))))))) _ := hP
  have hD : va_D A ((h0, .inr (3, [.int 0, .int 0, .int 0, .ref q1, .int 0, .ref q2, .ref q3, .ref q4, .int 0, .ref q5, .ref q6, .ref q7, .int 0, .ref q8, .null, .null, .null, .int 0])) :: ((q8, .inl (d 1, 6, .inl (fun _ => 0))) :: ((q7, .inl (d 1, 8, .inl (fun _ => 0))) :: ((q6, .inl (d 1, 8, .inl (fun _ => 0))) :: ((q5, .inl (d 1, 8, .inl (fun _ => 0))) :: ((q4, .inl (d 1, 9, .inl (fun _ => 0))) :: ((q3, .inl (d 1, 9, .inl (fun _ => 0))) :: ((q2, .inl (d 1, 9, .inl (fun _ => 0))) :: ((q1, .inl (d 1, 6, .inl (fun _ => 0))) :: []))))))))) := hD
  refine lv_aload_n hx hb dX3_init_68 rfl (lv_at hl 0 rfl) ?_
  refine lv_bipush (v := 6) hx hb dX3_init_69 (by decide) ?_
  refine dx_newi (d := d) (N := 6) (k1 := 9) (n1 := 69) hx hb hts hK hP hD hS hA (by decide) (by decide) (by decide) rfl rfl (Nat.le_of_ble_eq_true rfl) (Nat.le_of_ble_eq_true rfl) dX3_init_71 (fun q9 H hP hD hS => ?_)
  have hP := dx_insP1 hP
  have hD := dx_insD1 hD
  have hP : va_P D vwCl ((h0, .inr (3, [.int 0, .int 0, .int 0, .ref q1, .int 0, .ref q2, .ref q3, .ref q4, .int 0, .ref q5, .ref q6, .ref q7, .int 0, .ref q8, .null, .null, .null, .int 0])) :: ((q9, .inl (d 1, 6, .inl (fun _ => 0))) :: ((q8, .inl (d 1, 6, .inl (fun _ => 0))) :: ((q7, .inl (d 1, 8, .inl (fun _ => 0))) :: ((q6, .inl (d 1, 8, .inl (fun _ => 0))) :: ((q5, .inl (d 1, 8, .inl (fun _ => 0))) :: ((q4, .inl (d 1, 9, .inl (fun _ => 0))) :: ((q3, .inl (d 1, 9, .inl (fun _ => 0))) :: ((q2, .inl (d 1, 9, .inl (fun _ => 0))) :: ((q1, .inl (d 1, 6, .inl (fun _ => 0))) :: [])))))))))) _ := hP
  have hD : va_D A ((h0, .inr (3, [.int 0, .int 0, .int 0, .ref q1, .int 0, .ref q2, .ref q3, .ref q4, .int 0, .ref q5, .ref q6, .ref q7, .int 0, .ref q8, .null, .null, .null, .int 0])) :: ((q9, .inl (d 1, 6, .inl (fun _ => 0))) :: ((q8, .inl (d 1, 6, .inl (fun _ => 0))) :: ((q7, .inl (d 1, 8, .inl (fun _ => 0))) :: ((q6, .inl (d 1, 8, .inl (fun _ => 0))) :: ((q5, .inl (d 1, 8, .inl (fun _ => 0))) :: ((q4, .inl (d 1, 9, .inl (fun _ => 0))) :: ((q3, .inl (d 1, 9, .inl (fun _ => 0))) :: ((q2, .inl (d 1, 9, .inl (fun _ => 0))) :: ((q1, .inl (d 1, 6, .inl (fun _ => 0))) :: [])))))))))) := hD
  refine dx_putF (own := RX3) 3 14 (by decide) (by decide) dxw_208 (by decide +kernel) (by decide +kernel) (v := .ref q9) (by rw [dx_ty3_14]; rfl) (by rw [dx_ty3_14]; rfl) hown hin hx hb hts hK hP hD hS 0 (fs := [.int 0, .int 0, .int 0, .ref q1, .int 0, .ref q2, .ref q3, .ref q4, .int 0, .ref q5, .ref q6, .ref q7, .int 0, .ref q8, .null, .null, .null, .int 0]) rfl (Nat.le_of_ble_eq_true rfl) dX3_init_73 (fun H locs hP hD hS => ?_)
  have hP : va_P D vwCl ((h0, .inr (3, [.int 0, .int 0, .int 0, .ref q1, .int 0, .ref q2, .ref q3, .ref q4, .int 0, .ref q5, .ref q6, .ref q7, .int 0, .ref q8, .ref q9, .null, .null, .int 0])) :: ((q9, .inl (d 1, 6, .inl (fun _ => 0))) :: ((q8, .inl (d 1, 6, .inl (fun _ => 0))) :: ((q7, .inl (d 1, 8, .inl (fun _ => 0))) :: ((q6, .inl (d 1, 8, .inl (fun _ => 0))) :: ((q5, .inl (d 1, 8, .inl (fun _ => 0))) :: ((q4, .inl (d 1, 9, .inl (fun _ => 0))) :: ((q3, .inl (d 1, 9, .inl (fun _ => 0))) :: ((q2, .inl (d 1, 9, .inl (fun _ => 0))) :: ((q1, .inl (d 1, 6, .inl (fun _ => 0))) :: [])))))))))) _ := hP
  have hD : va_D A ((h0, .inr (3, [.int 0, .int 0, .int 0, .ref q1, .int 0, .ref q2, .ref q3, .ref q4, .int 0, .ref q5, .ref q6, .ref q7, .int 0, .ref q8, .ref q9, .null, .null, .int 0])) :: ((q9, .inl (d 1, 6, .inl (fun _ => 0))) :: ((q8, .inl (d 1, 6, .inl (fun _ => 0))) :: ((q7, .inl (d 1, 8, .inl (fun _ => 0))) :: ((q6, .inl (d 1, 8, .inl (fun _ => 0))) :: ((q5, .inl (d 1, 8, .inl (fun _ => 0))) :: ((q4, .inl (d 1, 9, .inl (fun _ => 0))) :: ((q3, .inl (d 1, 9, .inl (fun _ => 0))) :: ((q2, .inl (d 1, 9, .inl (fun _ => 0))) :: ((q1, .inl (d 1, 6, .inl (fun _ => 0))) :: [])))))))))) := hD
  refine lv_aload_n hx hb dX3_init_76 rfl (lv_at hl 0 rfl) ?_
  refine lv_bipush (v := 6) hx hb dX3_init_77 (by decide) ?_
  refine dx_newi (d := d) (N := 6) (k1 := 10) (n1 := 75) hx hb hts hK hP hD hS hA (by decide) (by decide) (by decide) rfl rfl (Nat.le_of_ble_eq_true rfl) (Nat.le_of_ble_eq_true rfl) dX3_init_79 (fun q10 H hP hD hS => ?_)
  have hP := dx_insP1 hP
  have hD := dx_insD1 hD
  have hP : va_P D vwCl ((h0, .inr (3, [.int 0, .int 0, .int 0, .ref q1, .int 0, .ref q2, .ref q3, .ref q4, .int 0, .ref q5, .ref q6, .ref q7, .int 0, .ref q8, .ref q9, .null, .null, .int 0])) :: ((q10, .inl (d 1, 6, .inl (fun _ => 0))) :: ((q9, .inl (d 1, 6, .inl (fun _ => 0))) :: ((q8, .inl (d 1, 6, .inl (fun _ => 0))) :: ((q7, .inl (d 1, 8, .inl (fun _ => 0))) :: ((q6, .inl (d 1, 8, .inl (fun _ => 0))) :: ((q5, .inl (d 1, 8, .inl (fun _ => 0))) :: ((q4, .inl (d 1, 9, .inl (fun _ => 0))) :: ((q3, .inl (d 1, 9, .inl (fun _ => 0))) :: ((q2, .inl (d 1, 9, .inl (fun _ => 0))) :: ((q1, .inl (d 1, 6, .inl (fun _ => 0))) :: []))))))))))) _ := hP
  have hD : va_D A ((h0, .inr (3, [.int 0, .int 0, .int 0, .ref q1, .int 0, .ref q2, .ref q3, .ref q4, .int 0, .ref q5, .ref q6, .ref q7, .int 0, .ref q8, .ref q9, .null, .null, .int 0])) :: ((q10, .inl (d 1, 6, .inl (fun _ => 0))) :: ((q9, .inl (d 1, 6, .inl (fun _ => 0))) :: ((q8, .inl (d 1, 6, .inl (fun _ => 0))) :: ((q7, .inl (d 1, 8, .inl (fun _ => 0))) :: ((q6, .inl (d 1, 8, .inl (fun _ => 0))) :: ((q5, .inl (d 1, 8, .inl (fun _ => 0))) :: ((q4, .inl (d 1, 9, .inl (fun _ => 0))) :: ((q3, .inl (d 1, 9, .inl (fun _ => 0))) :: ((q2, .inl (d 1, 9, .inl (fun _ => 0))) :: ((q1, .inl (d 1, 6, .inl (fun _ => 0))) :: []))))))))))) := hD
  refine dx_putF (own := RX3) 3 15 (by decide) (by decide) dxw_211 (by decide +kernel) (by decide +kernel) (v := .ref q10) (by rw [dx_ty3_15]; rfl) (by rw [dx_ty3_15]; rfl) hown hin hx hb hts hK hP hD hS 0 (fs := [.int 0, .int 0, .int 0, .ref q1, .int 0, .ref q2, .ref q3, .ref q4, .int 0, .ref q5, .ref q6, .ref q7, .int 0, .ref q8, .ref q9, .null, .null, .int 0]) rfl (Nat.le_of_ble_eq_true rfl) dX3_init_81 (fun H locs hP hD hS => ?_)
  have hP : va_P D vwCl ((h0, .inr (3, [.int 0, .int 0, .int 0, .ref q1, .int 0, .ref q2, .ref q3, .ref q4, .int 0, .ref q5, .ref q6, .ref q7, .int 0, .ref q8, .ref q9, .ref q10, .null, .int 0])) :: ((q10, .inl (d 1, 6, .inl (fun _ => 0))) :: ((q9, .inl (d 1, 6, .inl (fun _ => 0))) :: ((q8, .inl (d 1, 6, .inl (fun _ => 0))) :: ((q7, .inl (d 1, 8, .inl (fun _ => 0))) :: ((q6, .inl (d 1, 8, .inl (fun _ => 0))) :: ((q5, .inl (d 1, 8, .inl (fun _ => 0))) :: ((q4, .inl (d 1, 9, .inl (fun _ => 0))) :: ((q3, .inl (d 1, 9, .inl (fun _ => 0))) :: ((q2, .inl (d 1, 9, .inl (fun _ => 0))) :: ((q1, .inl (d 1, 6, .inl (fun _ => 0))) :: []))))))))))) _ := hP
  have hD : va_D A ((h0, .inr (3, [.int 0, .int 0, .int 0, .ref q1, .int 0, .ref q2, .ref q3, .ref q4, .int 0, .ref q5, .ref q6, .ref q7, .int 0, .ref q8, .ref q9, .ref q10, .null, .int 0])) :: ((q10, .inl (d 1, 6, .inl (fun _ => 0))) :: ((q9, .inl (d 1, 6, .inl (fun _ => 0))) :: ((q8, .inl (d 1, 6, .inl (fun _ => 0))) :: ((q7, .inl (d 1, 8, .inl (fun _ => 0))) :: ((q6, .inl (d 1, 8, .inl (fun _ => 0))) :: ((q5, .inl (d 1, 8, .inl (fun _ => 0))) :: ((q4, .inl (d 1, 9, .inl (fun _ => 0))) :: ((q3, .inl (d 1, 9, .inl (fun _ => 0))) :: ((q2, .inl (d 1, 9, .inl (fun _ => 0))) :: ((q1, .inl (d 1, 6, .inl (fun _ => 0))) :: []))))))))))) := hD
  refine lv_aload_n hx hb dX3_init_84 rfl (lv_at hl 0 rfl) ?_
  refine lv_bipush (v := 6) hx hb dX3_init_85 (by decide) ?_
  refine dx_newi (d := d) (N := 6) (k1 := 11) (n1 := 81) hx hb hts hK hP hD hS hA (by decide) (by decide) (by decide) rfl rfl (Nat.le_of_ble_eq_true rfl) (Nat.le_of_ble_eq_true rfl) dX3_init_87 (fun q11 H hP hD hS => ?_)
  have hP := dx_insP1 hP
  have hD := dx_insD1 hD
  have hP : va_P D vwCl ((h0, .inr (3, [.int 0, .int 0, .int 0, .ref q1, .int 0, .ref q2, .ref q3, .ref q4, .int 0, .ref q5, .ref q6, .ref q7, .int 0, .ref q8, .ref q9, .ref q10, .null, .int 0])) :: ((q11, .inl (d 1, 6, .inl (fun _ => 0))) :: ((q10, .inl (d 1, 6, .inl (fun _ => 0))) :: ((q9, .inl (d 1, 6, .inl (fun _ => 0))) :: ((q8, .inl (d 1, 6, .inl (fun _ => 0))) :: ((q7, .inl (d 1, 8, .inl (fun _ => 0))) :: ((q6, .inl (d 1, 8, .inl (fun _ => 0))) :: ((q5, .inl (d 1, 8, .inl (fun _ => 0))) :: ((q4, .inl (d 1, 9, .inl (fun _ => 0))) :: ((q3, .inl (d 1, 9, .inl (fun _ => 0))) :: ((q2, .inl (d 1, 9, .inl (fun _ => 0))) :: ((q1, .inl (d 1, 6, .inl (fun _ => 0))) :: [])))))))))))) _ := hP
  have hD : va_D A ((h0, .inr (3, [.int 0, .int 0, .int 0, .ref q1, .int 0, .ref q2, .ref q3, .ref q4, .int 0, .ref q5, .ref q6, .ref q7, .int 0, .ref q8, .ref q9, .ref q10, .null, .int 0])) :: ((q11, .inl (d 1, 6, .inl (fun _ => 0))) :: ((q10, .inl (d 1, 6, .inl (fun _ => 0))) :: ((q9, .inl (d 1, 6, .inl (fun _ => 0))) :: ((q8, .inl (d 1, 6, .inl (fun _ => 0))) :: ((q7, .inl (d 1, 8, .inl (fun _ => 0))) :: ((q6, .inl (d 1, 8, .inl (fun _ => 0))) :: ((q5, .inl (d 1, 8, .inl (fun _ => 0))) :: ((q4, .inl (d 1, 9, .inl (fun _ => 0))) :: ((q3, .inl (d 1, 9, .inl (fun _ => 0))) :: ((q2, .inl (d 1, 9, .inl (fun _ => 0))) :: ((q1, .inl (d 1, 6, .inl (fun _ => 0))) :: [])))))))))))) := hD
  refine dx_putF (own := RX3) 3 16 (by decide) (by decide) dxw_214 (by decide +kernel) (by decide +kernel) (v := .ref q11) (by rw [dx_ty3_16]; rfl) (by rw [dx_ty3_16]; rfl) hown hin hx hb hts hK hP hD hS 0 (fs := [.int 0, .int 0, .int 0, .ref q1, .int 0, .ref q2, .ref q3, .ref q4, .int 0, .ref q5, .ref q6, .ref q7, .int 0, .ref q8, .ref q9, .ref q10, .null, .int 0]) rfl (Nat.le_of_ble_eq_true rfl) dX3_init_89 (fun H locs hP hD hS => ?_)
  have hP : va_P D vwCl ((h0, .inr (3, [.int 0, .int 0, .int 0, .ref q1, .int 0, .ref q2, .ref q3, .ref q4, .int 0, .ref q5, .ref q6, .ref q7, .int 0, .ref q8, .ref q9, .ref q10, .ref q11, .int 0])) :: ((q11, .inl (d 1, 6, .inl (fun _ => 0))) :: ((q10, .inl (d 1, 6, .inl (fun _ => 0))) :: ((q9, .inl (d 1, 6, .inl (fun _ => 0))) :: ((q8, .inl (d 1, 6, .inl (fun _ => 0))) :: ((q7, .inl (d 1, 8, .inl (fun _ => 0))) :: ((q6, .inl (d 1, 8, .inl (fun _ => 0))) :: ((q5, .inl (d 1, 8, .inl (fun _ => 0))) :: ((q4, .inl (d 1, 9, .inl (fun _ => 0))) :: ((q3, .inl (d 1, 9, .inl (fun _ => 0))) :: ((q2, .inl (d 1, 9, .inl (fun _ => 0))) :: ((q1, .inl (d 1, 6, .inl (fun _ => 0))) :: [])))))))))))) _ := hP
  have hD : va_D A ((h0, .inr (3, [.int 0, .int 0, .int 0, .ref q1, .int 0, .ref q2, .ref q3, .ref q4, .int 0, .ref q5, .ref q6, .ref q7, .int 0, .ref q8, .ref q9, .ref q10, .ref q11, .int 0])) :: ((q11, .inl (d 1, 6, .inl (fun _ => 0))) :: ((q10, .inl (d 1, 6, .inl (fun _ => 0))) :: ((q9, .inl (d 1, 6, .inl (fun _ => 0))) :: ((q8, .inl (d 1, 6, .inl (fun _ => 0))) :: ((q7, .inl (d 1, 8, .inl (fun _ => 0))) :: ((q6, .inl (d 1, 8, .inl (fun _ => 0))) :: ((q5, .inl (d 1, 8, .inl (fun _ => 0))) :: ((q4, .inl (d 1, 9, .inl (fun _ => 0))) :: ((q3, .inl (d 1, 9, .inl (fun _ => 0))) :: ((q2, .inl (d 1, 9, .inl (fun _ => 0))) :: ((q1, .inl (d 1, 6, .inl (fun _ => 0))) :: [])))))))))))) := hD
  have hP9 : va_P D vwCl (wPlan d (dx_ad [h0, q1, q2, q3, q4, q5, q6, q7, q8, q9, q10, q11])) _ := hP
  have hD9 : va_D A (wPlan d (dx_ad [h0, q1, q2, q3, q4, q5, q6, q7, q8, q9, q10, q11])) := hD
  exact W.vret hx hb hr (fun t ht hW => ⟨⟨dx_ad [h0, q1, q2, q3, q4, q5, q6, q7, q8, q9, q10, q11], rfl, rfl, by rw [ht]; exact hP9, hD9⟩, hS.F ht⟩) hS.2.2 dX3_init_92
def wWays (d : Nat → ClassId) (a : Nat → Nat) : va_W := [(a 0, .inr (6, [.ref (a 1), .ref (a 2)])), (a 2, .inl (d 1, 36, .inl (fun _ => 0))), (a 1, .inl (d 1, 36, .inl (fun _ => 0)))]
theorem dX6_init_0 : decode cX6_init 0 = .ok (.aload_n 0, 1) := by decide +kernel
theorem dX6_init_1 : decode cX6_init 1 = .ok (.invokespecial 3, 3) := by decide +kernel
theorem dX6_init_4 : decode cX6_init 4 = .ok (.aload_n 0, 1) := by decide +kernel
theorem dX6_init_5 : decode cX6_init 5 = .ok (.bipush 36, 2) := by decide +kernel
theorem dX6_init_7 : decode cX6_init 7 = .ok (.newarray .int, 2) := by decide +kernel
theorem dX6_init_9 : decode cX6_init 9 = .ok (.putfield 9, 3) := by decide +kernel
theorem dX6_init_12 : decode cX6_init 12 = .ok (.aload_n 0, 1) := by decide +kernel
theorem dX6_init_13 : decode cX6_init 13 = .ok (.bipush 36, 2) := by decide +kernel
theorem dX6_init_15 : decode cX6_init 15 = .ok (.newarray .int, 2) := by decide +kernel
theorem dX6_init_17 : decode cX6_init 17 = .ok (.putfield 15, 3) := by decide +kernel
theorem dX6_init_20 : decode cX6_init 20 = .ok (.return_, 1) := by decide +kernel
set_option maxRecDepth 100000 in
set_option maxHeartbeats 8000000 in
theorem k_X6 (l : Launch) (D : va_G) (d : Nat → ClassId) : dx_C l yX6_init cX6_init 1 { frames := 2, cells := 2, slots := 72, locals := 40 } D d [] (.inr (6, [.null, .null])) (S := Nat → Nat) (fun q a => a 0 = q) (wWays d) 2 72 := by
  intro h0 sz
  refine Met.ofW (cc := cX6_init) (maxL := 1) (ret := none) (by decide) rfl ?_
  intro p e s m args below meth c s₁ B hml hv
  obtain ⟨rfl, hsz, hP, hK⟩ := hv
  have hx := B.exec
  have hb := B.bytes
  have hr := B.returns
  have hts : ∀ w ∈ lw_gd, w.before _ s = true := fun w hw => atoms_spec (ws := Cond.code yX6_init cX6_init 1 none :: lw_gd) B.pre w (List.mem_cons_of_mem _ hw)
  have hown : s.vm.findClass RX6 = some m.cls := findClass_of_methodNamed B.named
  have hlocks := B.notSynchronized
  have hin : meth.name = "<init>" := (name_of_methodNamed B.named B.method).1
  subst hsz
  have hD : va_D (va_A [(h0, .inr (6, [.null, .null]))] s.heap.size) [(h0, .inr (6, [.null, .null]))] := dx_D1
  generalize hAe : va_A [(h0, .inr (6, [.null, .null]))] s.heap.size = A at hD ⊢
  have hA : ∀ q : Nat, s.heap.size ≤ q → A q := fun q h => by rw [← hAe]; exact Or.inr h
  have hS : va_S A s.heap s.heap [] := va_S.rf
  have hl := lv_entry ([.ref h0]) (n := 1) (Nat.le_of_ble_eq_true rfl)
  rw [lg_entry_eq]
  generalize (lg_sl ([.ref h0]) ++ List.replicate (1 - (lg_sl ([.ref h0])).length) Slot.unset).toArray = ls at hl ⊢
  have hl : lv_has ls 1 [(0, .ref h0)] := hl
  refine lv_aload_n hx hb dX6_init_0 rfl (lv_at hl 0 rfl) ?_
  refine dx_obj (own := RX6) dxw_264 hown hx hb hts hml hl.1 (Nat.le_of_ble_eq_true rfl) (Nat.le_of_ble_eq_true rfl) dX6_init_1 ?_
  refine lv_aload_n hx hb dX6_init_4 rfl (lv_at hl 0 rfl) ?_
  refine lv_bipush (v := 36) hx hb dX6_init_5 (by decide) ?_
  refine dx_newi (d := d) (N := 36) (k1 := 1) (n1 := 36) hx hb hts hK hP hD hS hA (by decide) (by decide) (by decide) rfl rfl (Nat.le_of_ble_eq_true rfl) (Nat.le_of_ble_eq_true rfl) dX6_init_7 (fun q1 H hP hD hS => ?_)
  have hP := dx_insP1 hP
  have hD := dx_insD1 hD
  have hP : va_P D vwCl ((h0, .inr (6, [.null, .null])) :: ((q1, .inl (d 1, 36, .inl (fun _ => 0))) :: [])) _ := hP
  have hD : va_D A ((h0, .inr (6, [.null, .null])) :: ((q1, .inl (d 1, 36, .inl (fun _ => 0))) :: [])) := hD
  refine dx_putF (own := RX6) 6 0 (by decide) (by decide) dxw_265 (by decide +kernel) (by decide +kernel) (v := .ref q1) (by rw [dx_ty6_0]; rfl) (by rw [dx_ty6_0]; rfl) hown hin hx hb hts hK hP hD hS 0 (fs := [.null, .null]) rfl (Nat.le_of_ble_eq_true rfl) dX6_init_9 (fun H locs hP hD hS => ?_)
  have hP : va_P D vwCl ((h0, .inr (6, [.ref q1, .null])) :: ((q1, .inl (d 1, 36, .inl (fun _ => 0))) :: [])) _ := hP
  have hD : va_D A ((h0, .inr (6, [.ref q1, .null])) :: ((q1, .inl (d 1, 36, .inl (fun _ => 0))) :: [])) := hD
  refine lv_aload_n hx hb dX6_init_12 rfl (lv_at hl 0 rfl) ?_
  refine lv_bipush (v := 36) hx hb dX6_init_13 (by decide) ?_
  refine dx_newi (d := d) (N := 36) (k1 := 2) (n1 := 72) hx hb hts hK hP hD hS hA (by decide) (by decide) (by decide) rfl rfl (Nat.le_of_ble_eq_true rfl) (Nat.le_of_ble_eq_true rfl) dX6_init_15 (fun q2 H hP hD hS => ?_)
  have hP := dx_insP1 hP
  have hD := dx_insD1 hD
  have hP : va_P D vwCl ((h0, .inr (6, [.ref q1, .null])) :: ((q2, .inl (d 1, 36, .inl (fun _ => 0))) :: ((q1, .inl (d 1, 36, .inl (fun _ => 0))) :: []))) _ := hP
  have hD : va_D A ((h0, .inr (6, [.ref q1, .null])) :: ((q2, .inl (d 1, 36, .inl (fun _ => 0))) :: ((q1, .inl (d 1, 36, .inl (fun _ => 0))) :: []))) := hD
  refine dx_putF (own := RX6) 6 1 (by decide) (by decide) dxw_268 (by decide +kernel) (by decide +kernel) (v := .ref q2) (by rw [dx_ty6_1]; rfl) (by rw [dx_ty6_1]; rfl) hown hin hx hb hts hK hP hD hS 0 (fs := [.ref q1, .null]) rfl (Nat.le_of_ble_eq_true rfl) dX6_init_17 (fun H locs hP hD hS => ?_)
  have hP : va_P D vwCl ((h0, .inr (6, [.ref q1, .ref q2])) :: ((q2, .inl (d 1, 36, .inl (fun _ => 0))) :: ((q1, .inl (d 1, 36, .inl (fun _ => 0))) :: []))) _ := hP
  have hD : va_D A ((h0, .inr (6, [.ref q1, .ref q2])) :: ((q2, .inl (d 1, 36, .inl (fun _ => 0))) :: ((q1, .inl (d 1, 36, .inl (fun _ => 0))) :: []))) := hD
  have hP9 : va_P D vwCl (wWays d (dx_ad [h0, q1, q2])) _ := hP
  have hD9 : va_D A (wWays d (dx_ad [h0, q1, q2])) := hD
  exact W.vret hx hb hr (fun t ht hW => ⟨⟨dx_ad [h0, q1, q2], rfl, rfl, by rw [ht]; exact hP9, hD9⟩, hS.F ht⟩) hS.2.2 dX6_init_20
def wCrowd (d : Nat → ClassId) (x1 : Nat) (x2 : Nat) (a : Nat → Nat) : va_W := [(a 0, .inr (1, [.ref x1, .ref x2, .int 0, .int 0, .ref (a 1), .ref (a 2), .ref (a 3), .ref (a 4), .ref (a 5), .ref (a 6), .ref (a 7), .ref (a 8), .ref (a 9), .ref (a 10), .ref (a 11)])), (a 11, .inl (d 1, 8, .inl (fun _ => 0))), (a 10, .inl (d 1, 30, .inl (fun _ => 0))), (a 9, .inl (d 1, 6, .inl (fun _ => 0))), (a 8, .inl (d 1, 240, .inl (fun _ => 0))), (a 7, .inl (d 1, 30, .inl (fun _ => 0))), (a 6, .inl (d 1, 30, .inl (fun _ => 0))), (a 5, .inl (d 1, 30, .inl (fun _ => 0))), (a 4, .inl (d 1, 30, .inl (fun _ => 0))), (a 3, .inl (d 1, 30, .inl (fun _ => 0))), (a 2, .inl (d 1, 30, .inl (fun _ => 0))), (a 1, .inl (d 1, 30, .inl (fun _ => 0)))]
theorem dX1_init_0 : decode cX1_init 0 = .ok (.aload_n 0, 1) := by decide +kernel
theorem dX1_init_1 : decode cX1_init 1 = .ok (.invokespecial 3, 3) := by decide +kernel
theorem dX1_init_4 : decode cX1_init 4 = .ok (.aload_n 0, 1) := by decide +kernel
theorem dX1_init_5 : decode cX1_init 5 = .ok (.bipush 30, 2) := by decide +kernel
theorem dX1_init_7 : decode cX1_init 7 = .ok (.newarray .int, 2) := by decide +kernel
theorem dX1_init_9 : decode cX1_init 9 = .ok (.putfield 9, 3) := by decide +kernel
theorem dX1_init_12 : decode cX1_init 12 = .ok (.aload_n 0, 1) := by decide +kernel
theorem dX1_init_13 : decode cX1_init 13 = .ok (.bipush 30, 2) := by decide +kernel
theorem dX1_init_15 : decode cX1_init 15 = .ok (.newarray .int, 2) := by decide +kernel
theorem dX1_init_17 : decode cX1_init 17 = .ok (.putfield 15, 3) := by decide +kernel
theorem dX1_init_20 : decode cX1_init 20 = .ok (.aload_n 0, 1) := by decide +kernel
theorem dX1_init_21 : decode cX1_init 21 = .ok (.bipush 30, 2) := by decide +kernel
theorem dX1_init_23 : decode cX1_init 23 = .ok (.newarray .int, 2) := by decide +kernel
theorem dX1_init_25 : decode cX1_init 25 = .ok (.putfield 18, 3) := by decide +kernel
theorem dX1_init_28 : decode cX1_init 28 = .ok (.aload_n 0, 1) := by decide +kernel
theorem dX1_init_29 : decode cX1_init 29 = .ok (.bipush 30, 2) := by decide +kernel
theorem dX1_init_31 : decode cX1_init 31 = .ok (.newarray .int, 2) := by decide +kernel
theorem dX1_init_33 : decode cX1_init 33 = .ok (.putfield 21, 3) := by decide +kernel
theorem dX1_init_36 : decode cX1_init 36 = .ok (.aload_n 0, 1) := by decide +kernel
theorem dX1_init_37 : decode cX1_init 37 = .ok (.bipush 30, 2) := by decide +kernel
theorem dX1_init_39 : decode cX1_init 39 = .ok (.newarray .int, 2) := by decide +kernel
theorem dX1_init_41 : decode cX1_init 41 = .ok (.putfield 24, 3) := by decide +kernel
theorem dX1_init_44 : decode cX1_init 44 = .ok (.aload_n 0, 1) := by decide +kernel
theorem dX1_init_45 : decode cX1_init 45 = .ok (.bipush 30, 2) := by decide +kernel
theorem dX1_init_47 : decode cX1_init 47 = .ok (.newarray .int, 2) := by decide +kernel
theorem dX1_init_49 : decode cX1_init 49 = .ok (.putfield 27, 3) := by decide +kernel
theorem dX1_init_52 : decode cX1_init 52 = .ok (.aload_n 0, 1) := by decide +kernel
theorem dX1_init_53 : decode cX1_init 53 = .ok (.bipush 30, 2) := by decide +kernel
theorem dX1_init_55 : decode cX1_init 55 = .ok (.newarray .int, 2) := by decide +kernel
theorem dX1_init_57 : decode cX1_init 57 = .ok (.putfield 30, 3) := by decide +kernel
theorem dX1_init_60 : decode cX1_init 60 = .ok (.aload_n 0, 1) := by decide +kernel
theorem dX1_init_61 : decode cX1_init 61 = .ok (.sipush 240, 3) := by decide +kernel
theorem dX1_init_64 : decode cX1_init 64 = .ok (.newarray .int, 2) := by decide +kernel
theorem dX1_init_66 : decode cX1_init 66 = .ok (.putfield 33, 3) := by decide +kernel
theorem dX1_init_69 : decode cX1_init 69 = .ok (.aload_n 0, 1) := by decide +kernel
theorem dX1_init_70 : decode cX1_init 70 = .ok (.bipush 6, 2) := by decide +kernel
theorem dX1_init_72 : decode cX1_init 72 = .ok (.newarray .int, 2) := by decide +kernel
theorem dX1_init_74 : decode cX1_init 74 = .ok (.putfield 36, 3) := by decide +kernel
theorem dX1_init_77 : decode cX1_init 77 = .ok (.aload_n 0, 1) := by decide +kernel
theorem dX1_init_78 : decode cX1_init 78 = .ok (.bipush 30, 2) := by decide +kernel
theorem dX1_init_80 : decode cX1_init 80 = .ok (.newarray .int, 2) := by decide +kernel
theorem dX1_init_82 : decode cX1_init 82 = .ok (.putfield 39, 3) := by decide +kernel
theorem dX1_init_85 : decode cX1_init 85 = .ok (.aload_n 0, 1) := by decide +kernel
theorem dX1_init_86 : decode cX1_init 86 = .ok (.bipush 8, 2) := by decide +kernel
theorem dX1_init_88 : decode cX1_init 88 = .ok (.newarray .int, 2) := by decide +kernel
theorem dX1_init_90 : decode cX1_init 90 = .ok (.putfield 42, 3) := by decide +kernel
theorem dX1_init_93 : decode cX1_init 93 = .ok (.aload_n 0, 1) := by decide +kernel
theorem dX1_init_94 : decode cX1_init 94 = .ok (.aload_n 1, 1) := by decide +kernel
theorem dX1_init_95 : decode cX1_init 95 = .ok (.putfield 45, 3) := by decide +kernel
theorem dX1_init_98 : decode cX1_init 98 = .ok (.aload_n 0, 1) := by decide +kernel
theorem dX1_init_99 : decode cX1_init 99 = .ok (.aload_n 2, 1) := by decide +kernel
theorem dX1_init_100 : decode cX1_init 100 = .ok (.putfield 49, 3) := by decide +kernel
theorem dX1_init_103 : decode cX1_init 103 = .ok (.return_, 1) := by decide +kernel
set_option maxRecDepth 100000 in
set_option maxHeartbeats 8000000 in
theorem k_X1 (l : Launch) (D : va_G) (d : Nat → ClassId) (x1 : Nat) (x2 : Nat) : dx_C l yX1_init cX1_init 3 { frames := 2, cells := 11, slots := 494, locals := 40 } D d [.ref x1, .ref x2] (.inr (1, [.null, .null, .int 0, .int 0, .null, .null, .null, .null, .null, .null, .null, .null, .null, .null, .null])) (S := Nat → Nat) (fun q a => a 0 = q) (wCrowd d x1 x2) 11 494 := by
  intro h0 sz
  refine Met.ofW (cc := cX1_init) (maxL := 3) (ret := none) (by decide) rfl ?_
  intro p e s m args below meth c s₁ B hml hv
  obtain ⟨rfl, hsz, hP, hK⟩ := hv
  have hx := B.exec
  have hb := B.bytes
  have hr := B.returns
  have hts : ∀ w ∈ lw_gd, w.before _ s = true := fun w hw => atoms_spec (ws := Cond.code yX1_init cX1_init 3 none :: lw_gd) B.pre w (List.mem_cons_of_mem _ hw)
  have hown : s.vm.findClass RX1 = some m.cls := findClass_of_methodNamed B.named
  have hlocks := B.notSynchronized
  have hin : meth.name = "<init>" := (name_of_methodNamed B.named B.method).1
  subst hsz
  have hD : va_D (va_A [(h0, .inr (1, [.null, .null, .int 0, .int 0, .null, .null, .null, .null, .null, .null, .null, .null, .null, .null, .null]))] s.heap.size) [(h0, .inr (1, [.null, .null, .int 0, .int 0, .null, .null, .null, .null, .null, .null, .null, .null, .null, .null, .null]))] := dx_D1
  generalize hAe : va_A [(h0, .inr (1, [.null, .null, .int 0, .int 0, .null, .null, .null, .null, .null, .null, .null, .null, .null, .null, .null]))] s.heap.size = A at hD ⊢
  have hA : ∀ q : Nat, s.heap.size ≤ q → A q := fun q h => by rw [← hAe]; exact Or.inr h
  have hS : va_S A s.heap s.heap [] := va_S.rf
  have hl := lv_entry ([.ref h0, .ref x1, .ref x2]) (n := 3) (Nat.le_of_ble_eq_true rfl)
  rw [lg_entry_eq]
  generalize (lg_sl ([.ref h0, .ref x1, .ref x2]) ++ List.replicate (3 - (lg_sl ([.ref h0, .ref x1, .ref x2])).length) Slot.unset).toArray = ls at hl ⊢
  have hl : lv_has ls 3 [(0, .ref h0), (1, .ref x1), (2, .ref x2)] := hl
  refine lv_aload_n hx hb dX1_init_0 rfl (lv_at hl 0 rfl) ?_
  refine dx_obj (own := RX1) dxw_280 hown hx hb hts hml hl.1 (Nat.le_of_ble_eq_true rfl) (Nat.le_of_ble_eq_true rfl) dX1_init_1 ?_
  refine lv_aload_n hx hb dX1_init_4 rfl (lv_at hl 0 rfl) ?_
  refine lv_bipush (v := 30) hx hb dX1_init_5 (by decide) ?_
  refine dx_newi (d := d) (N := 30) (k1 := 1) (n1 := 30) hx hb hts hK hP hD hS hA (by decide) (by decide) (by decide) rfl rfl (Nat.le_of_ble_eq_true rfl) (Nat.le_of_ble_eq_true rfl) dX1_init_7 (fun q1 H hP hD hS => ?_)
  have hP := dx_insP1 hP
  have hD := dx_insD1 hD
  have hP : va_P D vwCl ((h0, .inr (1, [.null, .null, .int 0, .int 0, .null, .null, .null, .null, .null, .null, .null, .null, .null, .null, .null])) :: ((q1, .inl (d 1, 30, .inl (fun _ => 0))) :: [])) _ := hP
  have hD : va_D A ((h0, .inr (1, [.null, .null, .int 0, .int 0, .null, .null, .null, .null, .null, .null, .null, .null, .null, .null, .null])) :: ((q1, .inl (d 1, 30, .inl (fun _ => 0))) :: [])) := hD
  refine dx_putF (own := RX1) 1 4 (by decide) (by decide) dxw_288 (by decide +kernel) (by decide +kernel) (v := .ref q1) (by rw [dx_ty1_4]; rfl) (by rw [dx_ty1_4]; rfl) hown hin hx hb hts hK hP hD hS 0 (fs := [.null, .null, .int 0, .int 0, .null, .null, .null, .null, .null, .null, .null, .null, .null, .null, .null]) rfl (Nat.le_of_ble_eq_true rfl) dX1_init_9 (fun H locs hP hD hS => ?_)
  have hP : va_P D vwCl ((h0, .inr (1, [.null, .null, .int 0, .int 0, .ref q1, .null, .null, .null, .null, .null, .null, .null, .null, .null, .null])) :: ((q1, .inl (d 1, 30, .inl (fun _ => 0))) :: [])) _ := hP
  have hD : va_D A ((h0, .inr (1, [.null, .null, .int 0, .int 0, .ref q1, .null, .null, .null, .null, .null, .null, .null, .null, .null, .null])) :: ((q1, .inl (d 1, 30, .inl (fun _ => 0))) :: [])) := hD
  refine lv_aload_n hx hb dX1_init_12 rfl (lv_at hl 0 rfl) ?_
  refine lv_bipush (v := 30) hx hb dX1_init_13 (by decide) ?_
  refine dx_newi (d := d) (N := 30) (k1 := 2) (n1 := 60) hx hb hts hK hP hD hS hA (by decide) (by decide) (by decide) rfl rfl (Nat.le_of_ble_eq_true rfl) (Nat.le_of_ble_eq_true rfl) dX1_init_15 (fun q2 H hP hD hS => ?_)
  have hP := dx_insP1 hP
  have hD := dx_insD1 hD
  have hP : va_P D vwCl ((h0, .inr (1, [.null, .null, .int 0, .int 0, .ref q1, .null, .null, .null, .null, .null, .null, .null, .null, .null, .null])) :: ((q2, .inl (d 1, 30, .inl (fun _ => 0))) :: ((q1, .inl (d 1, 30, .inl (fun _ => 0))) :: []))) _ := hP
  have hD : va_D A ((h0, .inr (1, [.null, .null, .int 0, .int 0, .ref q1, .null, .null, .null, .null, .null, .null, .null, .null, .null, .null])) :: ((q2, .inl (d 1, 30, .inl (fun _ => 0))) :: ((q1, .inl (d 1, 30, .inl (fun _ => 0))) :: []))) := hD
  refine dx_putF (own := RX1) 1 5 (by decide) (by decide) dxw_290 (by decide +kernel) (by decide +kernel) (v := .ref q2) (by rw [dx_ty1_5]; rfl) (by rw [dx_ty1_5]; rfl) hown hin hx hb hts hK hP hD hS 0 (fs := [.null, .null, .int 0, .int 0, .ref q1, .null, .null, .null, .null, .null, .null, .null, .null, .null, .null]) rfl (Nat.le_of_ble_eq_true rfl) dX1_init_17 (fun H locs hP hD hS => ?_)
  have hP : va_P D vwCl ((h0, .inr (1, [.null, .null, .int 0, .int 0, .ref q1, .ref q2, .null, .null, .null, .null, .null, .null, .null, .null, .null])) :: ((q2, .inl (d 1, 30, .inl (fun _ => 0))) :: ((q1, .inl (d 1, 30, .inl (fun _ => 0))) :: []))) _ := hP
  have hD : va_D A ((h0, .inr (1, [.null, .null, .int 0, .int 0, .ref q1, .ref q2, .null, .null, .null, .null, .null, .null, .null, .null, .null])) :: ((q2, .inl (d 1, 30, .inl (fun _ => 0))) :: ((q1, .inl (d 1, 30, .inl (fun _ => 0))) :: []))) := hD
  refine lv_aload_n hx hb dX1_init_20 rfl (lv_at hl 0 rfl) ?_
  refine lv_bipush (v := 30) hx hb dX1_init_21 (by decide) ?_
  refine dx_newi (d := d) (N := 30) (k1 := 3) (n1 := 90) hx hb hts hK hP hD hS hA (by decide) (by decide) (by decide) rfl rfl (Nat.le_of_ble_eq_true rfl) (Nat.le_of_ble_eq_true rfl) dX1_init_23 (fun q3 H hP hD hS => ?_)
  have hP := dx_insP1 hP
  have hD := dx_insD1 hD
  have hP : va_P D vwCl ((h0, .inr (1, [.null, .null, .int 0, .int 0, .ref q1, .ref q2, .null, .null, .null, .null, .null, .null, .null, .null, .null])) :: ((q3, .inl (d 1, 30, .inl (fun _ => 0))) :: ((q2, .inl (d 1, 30, .inl (fun _ => 0))) :: ((q1, .inl (d 1, 30, .inl (fun _ => 0))) :: [])))) _ := hP
  have hD : va_D A ((h0, .inr (1, [.null, .null, .int 0, .int 0, .ref q1, .ref q2, .null, .null, .null, .null, .null, .null, .null, .null, .null])) :: ((q3, .inl (d 1, 30, .inl (fun _ => 0))) :: ((q2, .inl (d 1, 30, .inl (fun _ => 0))) :: ((q1, .inl (d 1, 30, .inl (fun _ => 0))) :: [])))) := hD
  refine dx_putF (own := RX1) 1 6 (by decide) (by decide) dxw_293 (by decide +kernel) (by decide +kernel) (v := .ref q3) (by rw [dx_ty1_6]; rfl) (by rw [dx_ty1_6]; rfl) hown hin hx hb hts hK hP hD hS 0 (fs := [.null, .null, .int 0, .int 0, .ref q1, .ref q2, .null, .null, .null, .null, .null, .null, .null, .null, .null]) rfl (Nat.le_of_ble_eq_true rfl) dX1_init_25 (fun H locs hP hD hS => ?_)
  have hP : va_P D vwCl ((h0, .inr (1, [.null, .null, .int 0, .int 0, .ref q1, .ref q2, .ref q3, .null, .null, .null, .null, .null, .null, .null, .null])) :: ((q3, .inl (d 1, 30, .inl (fun _ => 0))) :: ((q2, .inl (d 1, 30, .inl (fun _ => 0))) :: ((q1, .inl (d 1, 30, .inl (fun _ => 0))) :: [])))) _ := hP
  have hD : va_D A ((h0, .inr (1, [.null, .null, .int 0, .int 0, .ref q1, .ref q2, .ref q3, .null, .null, .null, .null, .null, .null, .null, .null])) :: ((q3, .inl (d 1, 30, .inl (fun _ => 0))) :: ((q2, .inl (d 1, 30, .inl (fun _ => 0))) :: ((q1, .inl (d 1, 30, .inl (fun _ => 0))) :: [])))) := hD
  refine lv_aload_n hx hb dX1_init_28 rfl (lv_at hl 0 rfl) ?_
  refine lv_bipush (v := 30) hx hb dX1_init_29 (by decide) ?_
  refine dx_newi (d := d) (N := 30) (k1 := 4) (n1 := 120) hx hb hts hK hP hD hS hA (by decide) (by decide) (by decide) rfl rfl (Nat.le_of_ble_eq_true rfl) (Nat.le_of_ble_eq_true rfl) dX1_init_31 (fun q4 H hP hD hS => ?_)
  have hP := dx_insP1 hP
  have hD := dx_insD1 hD
  have hP : va_P D vwCl ((h0, .inr (1, [.null, .null, .int 0, .int 0, .ref q1, .ref q2, .ref q3, .null, .null, .null, .null, .null, .null, .null, .null])) :: ((q4, .inl (d 1, 30, .inl (fun _ => 0))) :: ((q3, .inl (d 1, 30, .inl (fun _ => 0))) :: ((q2, .inl (d 1, 30, .inl (fun _ => 0))) :: ((q1, .inl (d 1, 30, .inl (fun _ => 0))) :: []))))) _ := hP
  have hD : va_D A ((h0, .inr (1, [.null, .null, .int 0, .int 0, .ref q1, .ref q2, .ref q3, .null, .null, .null, .null, .null, .null, .null, .null])) :: ((q4, .inl (d 1, 30, .inl (fun _ => 0))) :: ((q3, .inl (d 1, 30, .inl (fun _ => 0))) :: ((q2, .inl (d 1, 30, .inl (fun _ => 0))) :: ((q1, .inl (d 1, 30, .inl (fun _ => 0))) :: []))))) := hD
  refine dx_putF (own := RX1) 1 7 (by decide) (by decide) dxw_296 (by decide +kernel) (by decide +kernel) (v := .ref q4) (by rw [dx_ty1_7]; rfl) (by rw [dx_ty1_7]; rfl) hown hin hx hb hts hK hP hD hS 0 (fs := [.null, .null, .int 0, .int 0, .ref q1, .ref q2, .ref q3, .null, .null, .null, .null, .null, .null, .null, .null]) rfl (Nat.le_of_ble_eq_true rfl) dX1_init_33 (fun H locs hP hD hS => ?_)
  have hP : va_P D vwCl ((h0, .inr (1, [.null, .null, .int 0, .int 0, .ref q1, .ref q2, .ref q3, .ref q4, .null, .null, .null, .null, .null, .null, .null])) :: ((q4, .inl (d 1, 30, .inl (fun _ => 0))) :: ((q3, .inl (d 1, 30, .inl (fun _ => 0))) :: ((q2, .inl (d 1, 30, .inl (fun _ => 0))) :: ((q1, .inl (d 1, 30, .inl (fun _ => 0))) :: []))))) _ := hP
  have hD : va_D A ((h0, .inr (1, [.null, .null, .int 0, .int 0, .ref q1, .ref q2, .ref q3, .ref q4, .null, .null, .null, .null, .null, .null, .null])) :: ((q4, .inl (d 1, 30, .inl (fun _ => 0))) :: ((q3, .inl (d 1, 30, .inl (fun _ => 0))) :: ((q2, .inl (d 1, 30, .inl (fun _ => 0))) :: ((q1, .inl (d 1, 30, .inl (fun _ => 0))) :: []))))) := hD
  refine lv_aload_n hx hb dX1_init_36 rfl (lv_at hl 0 rfl) ?_
  refine lv_bipush (v := 30) hx hb dX1_init_37 (by decide) ?_
  refine dx_newi (d := d) (N := 30) (k1 := 5) (n1 := 150) hx hb hts hK hP hD hS hA (by decide) (by decide) (by decide) rfl rfl (Nat.le_of_ble_eq_true rfl) (Nat.le_of_ble_eq_true rfl) dX1_init_39 (fun q5 H hP hD hS => ?_)
  have hP := dx_insP1 hP
  have hD := dx_insD1 hD
  have hP : va_P D vwCl ((h0, .inr (1, [.null, .null, .int 0, .int 0, .ref q1, .ref q2, .ref q3, .ref q4, .null, .null, .null, .null, .null, .null, .null])) :: ((q5, .inl (d 1, 30, .inl (fun _ => 0))) :: ((q4, .inl (d 1, 30, .inl (fun _ => 0))) :: ((q3, .inl (d 1, 30, .inl (fun _ => 0))) :: ((q2, .inl (d 1, 30, .inl (fun _ => 0))) :: ((q1, .inl (d 1, 30, .inl (fun _ => 0))) :: [])))))) _ := hP
  have hD : va_D A ((h0, .inr (1, [.null, .null, .int 0, .int 0, .ref q1, .ref q2, .ref q3, .ref q4, .null, .null, .null, .null, .null, .null, .null])) :: ((q5, .inl (d 1, 30, .inl (fun _ => 0))) :: ((q4, .inl (d 1, 30, .inl (fun _ => 0))) :: ((q3, .inl (d 1, 30, .inl (fun _ => 0))) :: ((q2, .inl (d 1, 30, .inl (fun _ => 0))) :: ((q1, .inl (d 1, 30, .inl (fun _ => 0))) :: [])))))) := hD
  refine dx_putF (own := RX1) 1 8 (by decide) (by decide) dxw_299 (by decide +kernel) (by decide +kernel) (v := .ref q5) (by rw [dx_ty1_8]; rfl) (by rw [dx_ty1_8]; rfl) hown hin hx hb hts hK hP hD hS 0 (fs := [.null, .null, .int 0, .int 0, .ref q1, .ref q2, .ref q3, .ref q4, .null, .null, .null, .null, .null, .null, .null]) rfl (Nat.le_of_ble_eq_true rfl) dX1_init_41 (fun H locs hP hD hS => ?_)
  have hP : va_P D vwCl ((h0, .inr (1, [.null, .null, .int 0, .int 0, .ref q1, .ref q2, .ref q3, .ref q4, .ref q5, .null, .null, .null, .null, .null, .null])) :: ((q5, .inl (d 1, 30, .inl (fun _ => 0))) :: ((q4, .inl (d 1, 30, .inl (fun _ => 0))) :: ((q3, .inl (d 1, 30, .inl (fun _ => 0))) :: ((q2, .inl (d 1, 30, .inl (fun _ => 0))) :: ((q1, .inl (d 1, 30, .inl (fun _ => 0))) :: [])))))) _ := hP
  have hD : va_D A ((h0, .inr (1, [.null, .null, .int 0, .int 0, .ref q1, .ref q2, .ref q3, .ref q4, .ref q5, .null, .null, .null, .null, .null, .null])) :: ((q5, .inl (d 1, 30, .inl (fun _ => 0))) :: ((q4, .inl (d 1, 30, .inl (fun _ => 0))) :: ((q3, .inl (d 1, 30, .inl (fun _ => 0))) :: ((q2, .inl (d 1, 30, .inl (fun _ => 0))) :: ((q1, .inl (d 1, 30, .inl (fun _ => 0))) :: [])))))) := hD
  refine lv_aload_n hx hb dX1_init_44 rfl (lv_at hl 0 rfl) ?_
  refine lv_bipush (v := 30) hx hb dX1_init_45 (by decide) ?_
  refine dx_newi (d := d) (N := 30) (k1 := 6) (n1 := 180) hx hb hts hK hP hD hS hA (by decide) (by decide) (by decide) rfl rfl (Nat.le_of_ble_eq_true rfl) (Nat.le_of_ble_eq_true rfl) dX1_init_47 (fun q6 H hP hD hS => ?_)
  have hP := dx_insP1 hP
  have hD := dx_insD1 hD
  have hP : va_P D vwCl ((h0, .inr (1, [.null, .null, .int 0, .int 0, .ref q1, .ref q2, .ref q3, .ref q4, .ref q5, .null, .null, .null, .null, .null, .null])) :: ((q6, .inl (d 1, 30, .inl (fun _ => 0))) :: ((q5, .inl (d 1, 30, .inl (fun _ => 0))) :: ((q4, .inl (d 1, 30, .inl (fun _ => 0))) :: ((q3, .inl (d 1, 30, .inl (fun _ => 0))) :: ((q2, .inl (d 1, 30, .inl (fun _ => 0))) :: ((q1, .inl (d 1, 30, .inl (fun _ => 0))) :: []))))))) _ := hP
  have hD : va_D A ((h0, .inr (1, [.null, .null, .int 0, .int 0, .ref q1, .ref q2, .ref q3, .ref q4, .ref q5, .null, .null, .null, .null, .null, .null])) :: ((q6, .inl (d 1, 30, .inl (fun _ => 0))) :: ((q5, .inl (d 1, 30, .inl (fun _ => 0))) :: ((q4, .inl (d 1, 30, .inl (fun _ => 0))) :: ((q3, .inl (d 1, 30, .inl (fun _ => 0))) :: ((q2, .inl (d 1, 30, .inl (fun _ => 0))) :: ((q1, .inl (d 1, 30, .inl (fun _ => 0))) :: []))))))) := hD
  refine dx_putF (own := RX1) 1 9 (by decide) (by decide) dxw_301 (by decide +kernel) (by decide +kernel) (v := .ref q6) (by rw [dx_ty1_9]; rfl) (by rw [dx_ty1_9]; rfl) hown hin hx hb hts hK hP hD hS 0 (fs := [.null, .null, .int 0, .int 0, .ref q1, .ref q2, .ref q3, .ref q4, .ref q5, .null, .null, .null, .null, .null, .null]) rfl (Nat.le_of_ble_eq_true rfl) dX1_init_49 (fun H locs hP hD hS => ?_)
  have hP : va_P D vwCl ((h0, .inr (1, [.null, .null, .int 0, .int 0, .ref q1, .ref q2, .ref q3, .ref q4, .ref q5, .ref q6, .null, .null, .null, .null, .null])) :: ((q6, .inl (d 1, 30, .inl (fun _ => 0))) :: ((q5, .inl (d 1, 30, .inl (fun _ => 0))) :: ((q4, .inl (d 1, 30, .inl (fun _ => 0))) :: ((q3, .inl (d 1, 30, .inl (fun _ => 0))) :: ((q2, .inl (d 1, 30, .inl (fun _ => 0))) :: ((q1, .inl (d 1, 30, .inl (fun _ => 0))) :: []))))))) _ := hP
  have hD : va_D A ((h0, .inr (1, [.null, .null, .int 0, .int 0, .ref q1, .ref q2, .ref q3, .ref q4, .ref q5, .ref q6, .null, .null, .null, .null, .null])) :: ((q6, .inl (d 1, 30, .inl (fun _ => 0))) :: ((q5, .inl (d 1, 30, .inl (fun _ => 0))) :: ((q4, .inl (d 1, 30, .inl (fun _ => 0))) :: ((q3, .inl (d 1, 30, .inl (fun _ => 0))) :: ((q2, .inl (d 1, 30, .inl (fun _ => 0))) :: ((q1, .inl (d 1, 30, .inl (fun _ => 0))) :: []))))))) := hD
  refine lv_aload_n hx hb dX1_init_52 rfl (lv_at hl 0 rfl) ?_
  refine lv_bipush (v := 30) hx hb dX1_init_53 (by decide) ?_
  refine dx_newi (d := d) (N := 30) (k1 := 7) (n1 := 210) hx hb hts hK hP hD hS hA (by decide) (by decide) (by decide) rfl rfl (Nat.le_of_ble_eq_true rfl) (Nat.le_of_ble_eq_true rfl) dX1_init_55 (fun q7 H hP hD hS => ?_)
  have hP := dx_insP1 hP
  have hD := dx_insD1 hD
  have hP : va_P D vwCl ((h0, .inr (1, [.null, .null, .int 0, .int 0, .ref q1, .ref q2, .ref q3, .ref q4, .ref q5, .ref q6, .null, .null, .null, .null, .null])) :: ((q7, .inl (d 1, 30, .inl (fun _ => 0))) :: ((q6, .inl (d 1, 30, .inl (fun _ => 0))) :: ((q5, .inl (d 1, 30, .inl (fun _ => 0))) :: ((q4, .inl (d 1, 30, .inl (fun _ => 0))) :: ((q3, .inl (d 1, 30, .inl (fun _ => 0))) :: ((q2, .inl (d 1, 30, .inl (fun _ => 0))) :: ((q1, .inl (d 1, 30, .inl (fun _ => 0))) :: [])))))))) _ := hP
  have hD : va_D A ((h0, .inr (1, [.null, .null, .int 0, .int 0, .ref q1, .ref q2, .ref q3, .ref q4, .ref q5, .ref q6, .null, .null, .null, .null, .null])) :: ((q7, .inl (d 1, 30, .inl (fun _ => 0))) :: ((q6, .inl (d 1, 30, .inl (fun _ => 0))) :: ((q5, .inl (d 1, 30, .inl (fun _ => 0))) :: ((q4, .inl (d 1, 30, .inl (fun _ => 0))) :: ((q3, .inl (d 1, 30, .inl (fun _ => 0))) :: ((q2, .inl (d 1, 30, .inl (fun _ => 0))) :: ((q1, .inl (d 1, 30, .inl (fun _ => 0))) :: [])))))))) := hD
  refine dx_putF (own := RX1) 1 10 (by decide) (by decide) dxw_303 (by decide +kernel) (by decide +kernel) (v := .ref q7) (by rw [dx_ty1_10]; rfl) (by rw [dx_ty1_10]; rfl) hown hin hx hb hts hK hP hD hS 0 (fs := [.null, .null, .int 0, .int 0, .ref q1, .ref q2, .ref q3, .ref q4, .ref q5, .ref q6, .null, .null, .null, .null, .null]) rfl (Nat.le_of_ble_eq_true rfl) dX1_init_57 (fun H locs hP hD hS => ?_)
  have hP : va_P D vwCl ((h0, .inr (1, [.null, .null, .int 0, .int 0, .ref q1, .ref q2, .ref q3, .ref q4, .ref q5, .ref q6, .ref q7, .null, .null, .null, .null])) :: ((q7, .inl (d 1, 30, .inl (fun _ => 0))) :: ((q6, .inl (d 1, 30, .inl (fun _ => 0))) :: ((q5, .inl (d 1, 30, .inl (fun _ => 0))) :: ((q4, .inl (d 1, 30, .inl (fun _ => 0))) :: ((q3, .inl (d 1, 30, .inl (fun _ => 0))) :: ((q2, .inl (d 1, 30, .inl (fun _ => 0))) :: ((q1, .inl (d 1, 30, .inl (fun _ => 0))) :: [])))))))) _ := hP
  have hD : va_D A ((h0, .inr (1, [.null, .null, .int 0, .int 0, .ref q1, .ref q2, .ref q3, .ref q4, .ref q5, .ref q6, .ref q7, .null, .null, .null, .null])) :: ((q7, .inl (d 1, 30, .inl (fun _ => 0))) :: ((q6, .inl (d 1, 30, .inl (fun _ => 0))) :: ((q5, .inl (d 1, 30, .inl (fun _ => 0))) :: ((q4, .inl (d 1, 30, .inl (fun _ => 0))) :: ((q3, .inl (d 1, 30, .inl (fun _ => 0))) :: ((q2, .inl (d 1, 30, .inl (fun _ => 0))) :: ((q1, .inl (d 1, 30, .inl (fun _ => 0))) :: [])))))))) := hD
  refine lv_aload_n hx hb dX1_init_60 rfl (lv_at hl 0 rfl) ?_
  refine lv_sipush (v := 240) hx hb dX1_init_61 (by decide) ?_
  refine dx_newi (d := d) (N := 240) (k1 := 8) (n1 := 450) hx hb hts hK hP hD hS hA (by decide) (by decide) (by decide) rfl rfl (Nat.le_of_ble_eq_true rfl) (Nat.le_of_ble_eq_true rfl) dX1_init_64 (fun q8 H hP hD hS => ?_)
  have hP := dx_insP1 hP
  have hD := dx_insD1 hD
  have hP : va_P D vwCl ((h0, .inr (1, [.null, .null, .int 0, .int 0, .ref q1, .ref q2, .ref q3, .ref q4, .ref q5, .ref q6, .ref q7, .null, .null, .null, .null])) :: ((q8, .inl (d 1, 240, .inl (fun _ => 0))) :: ((q7, .inl (d 1, 30, .inl (fun _ => 0))) :: ((q6, .inl (d 1, 30, .inl (fun _ => 0))) :: ((q5, .inl (d 1, 30, .inl (fun _ => 0))) :: ((q4, .inl (d 1, 30, .inl (fun _ => 0))) :: ((q3, .inl (d 1, 30, .inl (fun _ => 0))) :: ((q2, .inl (d 1, 30, .inl (fun _ => 0))) :: ((q1, .inl (d 1, 30, .inl (fun _ => 0))) :: []))))))))) _ := hP
  have hD : va_D A ((h0, .inr (1, [.null, .null, .int 0, .int 0, .ref q1, .ref q2, .ref q3, .ref q4, .ref q5, .ref q6, .ref q7, .null, .null, .null, .null])) :: ((q8, .inl (d 1, 240, .inl (fun _ => 0))) :: ((q7, .inl (d 1, 30, .inl (fun _ => 0))) :: ((q6, .inl (d 1, 30, .inl (fun _ => 0))) :: ((q5, .inl (d 1, 30, .inl (fun _ => 0))) :: ((q4, .inl (d 1, 30, .inl (fun _ => 0))) :: ((q3, .inl (d 1, 30, .inl (fun _ => 0))) :: ((q2, .inl (d 1, 30, .inl (fun _ => 0))) :: ((q1, .inl (d 1, 30, .inl (fun _ => 0))) :: []))))))))) := hD
  refine dx_putF (own := RX1) 1 11 (by decide) (by decide) dxw_305 (by decide +kernel) (by decide +kernel) (v := .ref q8) (by rw [dx_ty1_11]; rfl) (by rw [dx_ty1_11]; rfl) hown hin hx hb hts hK hP hD hS 0 (fs := [.null, .null, .int 0, .int 0, .ref q1, .ref q2, .ref q3, .ref q4, .ref q5, .ref q6, .ref q7, .null, .null, .null, .null]) rfl (Nat.le_of_ble_eq_true rfl) dX1_init_66 (fun H locs hP hD hS => ?_)
  have hP : va_P D vwCl ((h0, .inr (1, [.null, .null, .int 0, .int 0, .ref q1, .ref q2, .ref q3, .ref q4, .ref q5, .ref q6, .ref q7, .ref q8, .null, .null, .null])) :: ((q8, .inl (d 1, 240, .inl (fun _ => 0))) :: ((q7, .inl (d 1, 30, .inl (fun _ => 0))) :: ((q6, .inl (d 1, 30, .inl (fun _ => 0))) :: ((q5, .inl (d 1, 30, .inl (fun _ => 0))) :: ((q4, .inl (d 1, 30, .inl (fun _ => 0))) :: ((q3, .inl (d 1, 30, .inl (fun _ => 0))) :: ((q2, .inl (d 1, 30, .inl (fun _ => 0))) :: ((q1, .inl (d 1, 30, .inl (fun _ => 0))) :: []))))))))) _ := hP
  have hD : va_D A ((h0, .inr (1, [.null, .null, .int 0, .int 0, .ref q1, .ref q2, .ref q3, .ref q4, .ref q5, .ref q6, .ref q7, .ref q8, .null, .null, .null])) :: ((q8, .inl (d 1, 240, .inl (fun _ => 0))) :: ((q7, .inl (d 1, 30, .inl (fun _ => 0))) :: ((q6, .inl (d 1, 30, .inl (fun _ => 0))) :: ((q5, .inl (d 1, 30, .inl (fun _ => 0))) :: ((q4, .inl (d 1, 30, .inl (fun _ => 0))) :: ((q3, .inl (d 1, 30, .inl (fun _ => 0))) :: ((q2, .inl (d 1, 30, .inl (fun _ => 0))) :: ((q1, .inl (d 1, 30, .inl (fun _ => 0))) :: []))))))))) := hD
  refine lv_aload_n hx hb dX1_init_69 rfl (lv_at hl 0 rfl) ?_
  refine lv_bipush (v := 6) hx hb dX1_init_70 (by decide) ?_
  refine dx_newi (d := d) (N := 6) (k1 := 9) (n1 := 456) hx hb hts hK hP hD hS hA (by decide) (by decide) (by decide) rfl rfl (Nat.le_of_ble_eq_true rfl) (Nat.le_of_ble_eq_true rfl) dX1_init_72 (fun q9 H hP hD hS => ?_)
  have hP := dx_insP1 hP
  have hD := dx_insD1 hD
  have hP : va_P D vwCl ((h0, .inr (1, [.null, .null, .int 0, .int 0, .ref q1, .ref q2, .ref q3, .ref q4, .ref q5, .ref q6, .ref q7, .ref q8, .null, .null, .null])) :: ((q9, .inl (d 1, 6, .inl (fun _ => 0))) :: ((q8, .inl (d 1, 240, .inl (fun _ => 0))) :: ((q7, .inl (d 1, 30, .inl (fun _ => 0))) :: ((q6, .inl (d 1, 30, .inl (fun _ => 0))) :: ((q5, .inl (d 1, 30, .inl (fun _ => 0))) :: ((q4, .inl (d 1, 30, .inl (fun _ => 0))) :: ((q3, .inl (d 1, 30, .inl (fun _ => 0))) :: ((q2, .inl (d 1, 30, .inl (fun _ => 0))) :: ((q1, .inl (d 1, 30, .inl (fun _ => 0))) :: [])))))))))) _ := hP
  have hD : va_D A ((h0, .inr (1, [.null, .null, .int 0, .int 0, .ref q1, .ref q2, .ref q3, .ref q4, .ref q5, .ref q6, .ref q7, .ref q8, .null, .null, .null])) :: ((q9, .inl (d 1, 6, .inl (fun _ => 0))) :: ((q8, .inl (d 1, 240, .inl (fun _ => 0))) :: ((q7, .inl (d 1, 30, .inl (fun _ => 0))) :: ((q6, .inl (d 1, 30, .inl (fun _ => 0))) :: ((q5, .inl (d 1, 30, .inl (fun _ => 0))) :: ((q4, .inl (d 1, 30, .inl (fun _ => 0))) :: ((q3, .inl (d 1, 30, .inl (fun _ => 0))) :: ((q2, .inl (d 1, 30, .inl (fun _ => 0))) :: ((q1, .inl (d 1, 30, .inl (fun _ => 0))) :: [])))))))))) := hD
  refine dx_putF (own := RX1) 1 12 (by decide) (by decide) dxw_307 (by decide +kernel) (by decide +kernel) (v := .ref q9) (by rw [dx_ty1_12]; rfl) (by rw [dx_ty1_12]; rfl) hown hin hx hb hts hK hP hD hS 0 (fs := [.null, .null, .int 0, .int 0, .ref q1, .ref q2, .ref q3, .ref q4, .ref q5, .ref q6, .ref q7, .ref q8, .null, .null, .null]) rfl (Nat.le_of_ble_eq_true rfl) dX1_init_74 (fun H locs hP hD hS => ?_)
  have hP : va_P D vwCl ((h0, .inr (1, [.null, .null, .int 0, .int 0, .ref q1, .ref q2, .ref q3, .ref q4, .ref q5, .ref q6, .ref q7, .ref q8, .ref q9, .null, .null])) :: ((q9, .inl (d 1, 6, .inl (fun _ => 0))) :: ((q8, .inl (d 1, 240, .inl (fun _ => 0))) :: ((q7, .inl (d 1, 30, .inl (fun _ => 0))) :: ((q6, .inl (d 1, 30, .inl (fun _ => 0))) :: ((q5, .inl (d 1, 30, .inl (fun _ => 0))) :: ((q4, .inl (d 1, 30, .inl (fun _ => 0))) :: ((q3, .inl (d 1, 30, .inl (fun _ => 0))) :: ((q2, .inl (d 1, 30, .inl (fun _ => 0))) :: ((q1, .inl (d 1, 30, .inl (fun _ => 0))) :: [])))))))))) _ := hP
  have hD : va_D A ((h0, .inr (1, [.null, .null, .int 0, .int 0, .ref q1, .ref q2, .ref q3, .ref q4, .ref q5, .ref q6, .ref q7, .ref q8, .ref q9, .null, .null])) :: ((q9, .inl (d 1, 6, .inl (fun _ => 0))) :: ((q8, .inl (d 1, 240, .inl (fun _ => 0))) :: ((q7, .inl (d 1, 30, .inl (fun _ => 0))) :: ((q6, .inl (d 1, 30, .inl (fun _ => 0))) :: ((q5, .inl (d 1, 30, .inl (fun _ => 0))) :: ((q4, .inl (d 1, 30, .inl (fun _ => 0))) :: ((q3, .inl (d 1, 30, .inl (fun _ => 0))) :: ((q2, .inl (d 1, 30, .inl (fun _ => 0))) :: ((q1, .inl (d 1, 30, .inl (fun _ => 0))) :: [])))))))))) := hD
  refine lv_aload_n hx hb dX1_init_77 rfl (lv_at hl 0 rfl) ?_
  refine lv_bipush (v := 30) hx hb dX1_init_78 (by decide) ?_
  refine dx_newi (d := d) (N := 30) (k1 := 10) (n1 := 486) hx hb hts hK hP hD hS hA (by decide) (by decide) (by decide) rfl rfl (Nat.le_of_ble_eq_true rfl) (Nat.le_of_ble_eq_true rfl) dX1_init_80 (fun q10 H hP hD hS => ?_)
  have hP := dx_insP1 hP
  have hD := dx_insD1 hD
  have hP : va_P D vwCl ((h0, .inr (1, [.null, .null, .int 0, .int 0, .ref q1, .ref q2, .ref q3, .ref q4, .ref q5, .ref q6, .ref q7, .ref q8, .ref q9, .null, .null])) :: ((q10, .inl (d 1, 30, .inl (fun _ => 0))) :: ((q9, .inl (d 1, 6, .inl (fun _ => 0))) :: ((q8, .inl (d 1, 240, .inl (fun _ => 0))) :: ((q7, .inl (d 1, 30, .inl (fun _ => 0))) :: ((q6, .inl (d 1, 30, .inl (fun _ => 0))) :: ((q5, .inl (d 1, 30, .inl (fun _ => 0))) :: ((q4, .inl (d 1, 30, .inl (fun _ => 0))) :: ((q3, .inl (d 1, 30, .inl (fun _ => 0))) :: ((q2, .inl (d 1, 30, .inl (fun _ => 0))) :: ((q1, .inl (d 1, 30, .inl (fun _ => 0))) :: []))))))))))) _ := hP
  have hD : va_D A ((h0, .inr (1, [.null, .null, .int 0, .int 0, .ref q1, .ref q2, .ref q3, .ref q4, .ref q5, .ref q6, .ref q7, .ref q8, .ref q9, .null, .null])) :: ((q10, .inl (d 1, 30, .inl (fun _ => 0))) :: ((q9, .inl (d 1, 6, .inl (fun _ => 0))) :: ((q8, .inl (d 1, 240, .inl (fun _ => 0))) :: ((q7, .inl (d 1, 30, .inl (fun _ => 0))) :: ((q6, .inl (d 1, 30, .inl (fun _ => 0))) :: ((q5, .inl (d 1, 30, .inl (fun _ => 0))) :: ((q4, .inl (d 1, 30, .inl (fun _ => 0))) :: ((q3, .inl (d 1, 30, .inl (fun _ => 0))) :: ((q2, .inl (d 1, 30, .inl (fun _ => 0))) :: ((q1, .inl (d 1, 30, .inl (fun _ => 0))) :: []))))))))))) := hD
  refine dx_putF (own := RX1) 1 13 (by decide) (by decide) dxw_309 (by decide +kernel) (by decide +kernel) (v := .ref q10) (by rw [dx_ty1_13]; rfl) (by rw [dx_ty1_13]; rfl) hown hin hx hb hts hK hP hD hS 0 (fs := [.null, .null, .int 0, .int 0, .ref q1, .ref q2, .ref q3, .ref q4, .ref q5, .ref q6, .ref q7, .ref q8, .ref q9, .null, .null]) rfl (Nat.le_of_ble_eq_true rfl) dX1_init_82 (fun H locs hP hD hS => ?_)
  have hP : va_P D vwCl ((h0, .inr (1, [.null, .null, .int 0, .int 0, .ref q1, .ref q2, .ref q3, .ref q4, .ref q5, .ref q6, .ref q7, .ref q8, .ref q9, .ref q10, .null])) :: ((q10, .inl (d 1, 30, .inl (fun _ => 0))) :: ((q9, .inl (d 1, 6, .inl (fun _ => 0))) :: ((q8, .inl (d 1, 240, .inl (fun _ => 0))) :: ((q7, .inl (d 1, 30, .inl (fun _ => 0))) :: ((q6, .inl (d 1, 30, .inl (fun _ => 0))) :: ((q5, .inl (d 1, 30, .inl (fun _ => 0))) :: ((q4, .inl (d 1, 30, .inl (fun _ => 0))) :: ((q3, .inl (d 1, 30, .inl (fun _ => 0))) :: ((q2, .inl (d 1, 30, .inl (fun _ => 0))) :: ((q1, .inl (d 1, 30, .inl (fun _ => 0))) :: []))))))))))) _ := hP
  have hD : va_D A ((h0, .inr (1, [.null, .null, .int 0, .int 0, .ref q1, .ref q2, .ref q3, .ref q4, .ref q5, .ref q6, .ref q7, .ref q8, .ref q9, .ref q10, .null])) :: ((q10, .inl (d 1, 30, .inl (fun _ => 0))) :: ((q9, .inl (d 1, 6, .inl (fun _ => 0))) :: ((q8, .inl (d 1, 240, .inl (fun _ => 0))) :: ((q7, .inl (d 1, 30, .inl (fun _ => 0))) :: ((q6, .inl (d 1, 30, .inl (fun _ => 0))) :: ((q5, .inl (d 1, 30, .inl (fun _ => 0))) :: ((q4, .inl (d 1, 30, .inl (fun _ => 0))) :: ((q3, .inl (d 1, 30, .inl (fun _ => 0))) :: ((q2, .inl (d 1, 30, .inl (fun _ => 0))) :: ((q1, .inl (d 1, 30, .inl (fun _ => 0))) :: []))))))))))) := hD
  refine lv_aload_n hx hb dX1_init_85 rfl (lv_at hl 0 rfl) ?_
  refine lv_bipush (v := 8) hx hb dX1_init_86 (by decide) ?_
  refine dx_newi (d := d) (N := 8) (k1 := 11) (n1 := 494) hx hb hts hK hP hD hS hA (by decide) (by decide) (by decide) rfl rfl (Nat.le_of_ble_eq_true rfl) (Nat.le_of_ble_eq_true rfl) dX1_init_88 (fun q11 H hP hD hS => ?_)
  have hP := dx_insP1 hP
  have hD := dx_insD1 hD
  have hP : va_P D vwCl ((h0, .inr (1, [.null, .null, .int 0, .int 0, .ref q1, .ref q2, .ref q3, .ref q4, .ref q5, .ref q6, .ref q7, .ref q8, .ref q9, .ref q10, .null])) :: ((q11, .inl (d 1, 8, .inl (fun _ => 0))) :: ((q10, .inl (d 1, 30, .inl (fun _ => 0))) :: ((q9, .inl (d 1, 6, .inl (fun _ => 0))) :: ((q8, .inl (d 1, 240, .inl (fun _ => 0))) :: ((q7, .inl (d 1, 30, .inl (fun _ => 0))) :: ((q6, .inl (d 1, 30, .inl (fun _ => 0))) :: ((q5, .inl (d 1, 30, .inl (fun _ => 0))) :: ((q4, .inl (d 1, 30, .inl (fun _ => 0))) :: ((q3, .inl (d 1, 30, .inl (fun _ => 0))) :: ((q2, .inl (d 1, 30, .inl (fun _ => 0))) :: ((q1, .inl (d 1, 30, .inl (fun _ => 0))) :: [])))))))))))) _ := hP
  have hD : va_D A ((h0, .inr (1, [.null, .null, .int 0, .int 0, .ref q1, .ref q2, .ref q3, .ref q4, .ref q5, .ref q6, .ref q7, .ref q8, .ref q9, .ref q10, .null])) :: ((q11, .inl (d 1, 8, .inl (fun _ => 0))) :: ((q10, .inl (d 1, 30, .inl (fun _ => 0))) :: ((q9, .inl (d 1, 6, .inl (fun _ => 0))) :: ((q8, .inl (d 1, 240, .inl (fun _ => 0))) :: ((q7, .inl (d 1, 30, .inl (fun _ => 0))) :: ((q6, .inl (d 1, 30, .inl (fun _ => 0))) :: ((q5, .inl (d 1, 30, .inl (fun _ => 0))) :: ((q4, .inl (d 1, 30, .inl (fun _ => 0))) :: ((q3, .inl (d 1, 30, .inl (fun _ => 0))) :: ((q2, .inl (d 1, 30, .inl (fun _ => 0))) :: ((q1, .inl (d 1, 30, .inl (fun _ => 0))) :: [])))))))))))) := hD
  refine dx_putF (own := RX1) 1 14 (by decide) (by decide) dxw_310 (by decide +kernel) (by decide +kernel) (v := .ref q11) (by rw [dx_ty1_14]; rfl) (by rw [dx_ty1_14]; rfl) hown hin hx hb hts hK hP hD hS 0 (fs := [.null, .null, .int 0, .int 0, .ref q1, .ref q2, .ref q3, .ref q4, .ref q5, .ref q6, .ref q7, .ref q8, .ref q9, .ref q10, .null]) rfl (Nat.le_of_ble_eq_true rfl) dX1_init_90 (fun H locs hP hD hS => ?_)
  have hP : va_P D vwCl ((h0, .inr (1, [.null, .null, .int 0, .int 0, .ref q1, .ref q2, .ref q3, .ref q4, .ref q5, .ref q6, .ref q7, .ref q8, .ref q9, .ref q10, .ref q11])) :: ((q11, .inl (d 1, 8, .inl (fun _ => 0))) :: ((q10, .inl (d 1, 30, .inl (fun _ => 0))) :: ((q9, .inl (d 1, 6, .inl (fun _ => 0))) :: ((q8, .inl (d 1, 240, .inl (fun _ => 0))) :: ((q7, .inl (d 1, 30, .inl (fun _ => 0))) :: ((q6, .inl (d 1, 30, .inl (fun _ => 0))) :: ((q5, .inl (d 1, 30, .inl (fun _ => 0))) :: ((q4, .inl (d 1, 30, .inl (fun _ => 0))) :: ((q3, .inl (d 1, 30, .inl (fun _ => 0))) :: ((q2, .inl (d 1, 30, .inl (fun _ => 0))) :: ((q1, .inl (d 1, 30, .inl (fun _ => 0))) :: [])))))))))))) _ := hP
  have hD : va_D A ((h0, .inr (1, [.null, .null, .int 0, .int 0, .ref q1, .ref q2, .ref q3, .ref q4, .ref q5, .ref q6, .ref q7, .ref q8, .ref q9, .ref q10, .ref q11])) :: ((q11, .inl (d 1, 8, .inl (fun _ => 0))) :: ((q10, .inl (d 1, 30, .inl (fun _ => 0))) :: ((q9, .inl (d 1, 6, .inl (fun _ => 0))) :: ((q8, .inl (d 1, 240, .inl (fun _ => 0))) :: ((q7, .inl (d 1, 30, .inl (fun _ => 0))) :: ((q6, .inl (d 1, 30, .inl (fun _ => 0))) :: ((q5, .inl (d 1, 30, .inl (fun _ => 0))) :: ((q4, .inl (d 1, 30, .inl (fun _ => 0))) :: ((q3, .inl (d 1, 30, .inl (fun _ => 0))) :: ((q2, .inl (d 1, 30, .inl (fun _ => 0))) :: ((q1, .inl (d 1, 30, .inl (fun _ => 0))) :: [])))))))))))) := hD
  refine lv_aload_n hx hb dX1_init_93 rfl (lv_at hl 0 rfl) ?_
  refine lv_aload_n hx hb dX1_init_94 rfl (lv_at hl 1 rfl) ?_
  refine dx_putF (own := RX1) 1 0 (by decide) (by decide) dxw_281 (by decide +kernel) (by decide +kernel) (v := .ref x1) (by rw [dx_ty1_0]; rfl) (by rw [dx_ty1_0]; rfl) hown hin hx hb hts hK hP hD hS 0 (fs := [.null, .null, .int 0, .int 0, .ref q1, .ref q2, .ref q3, .ref q4, .ref q5, .ref q6, .ref q7, .ref q8, .ref q9, .ref q10, .ref q11]) rfl (Nat.le_of_ble_eq_true rfl) dX1_init_95 (fun H locs hP hD hS => ?_)
  have hP : va_P D vwCl ((h0, .inr (1, [.ref x1, .null, .int 0, .int 0, .ref q1, .ref q2, .ref q3, .ref q4, .ref q5, .ref q6, .ref q7, .ref q8, .ref q9, .ref q10, .ref q11])) :: ((q11, .inl (d 1, 8, .inl (fun _ => 0))) :: ((q10, .inl (d 1, 30, .inl (fun _ => 0))) :: ((q9, .inl (d 1, 6, .inl (fun _ => 0))) :: ((q8, .inl (d 1, 240, .inl (fun _ => 0))) :: ((q7, .inl (d 1, 30, .inl (fun _ => 0))) :: ((q6, .inl (d 1, 30, .inl (fun _ => 0))) :: ((q5, .inl (d 1, 30, .inl (fun _ => 0))) :: ((q4, .inl (d 1, 30, .inl (fun _ => 0))) :: ((q3, .inl (d 1, 30, .inl (fun _ => 0))) :: ((q2, .inl (d 1, 30, .inl (fun _ => 0))) :: ((q1, .inl (d 1, 30, .inl (fun _ => 0))) :: [])))))))))))) _ := hP
  have hD : va_D A ((h0, .inr (1, [.ref x1, .null, .int 0, .int 0, .ref q1, .ref q2, .ref q3, .ref q4, .ref q5, .ref q6, .ref q7, .ref q8, .ref q9, .ref q10, .ref q11])) :: ((q11, .inl (d 1, 8, .inl (fun _ => 0))) :: ((q10, .inl (d 1, 30, .inl (fun _ => 0))) :: ((q9, .inl (d 1, 6, .inl (fun _ => 0))) :: ((q8, .inl (d 1, 240, .inl (fun _ => 0))) :: ((q7, .inl (d 1, 30, .inl (fun _ => 0))) :: ((q6, .inl (d 1, 30, .inl (fun _ => 0))) :: ((q5, .inl (d 1, 30, .inl (fun _ => 0))) :: ((q4, .inl (d 1, 30, .inl (fun _ => 0))) :: ((q3, .inl (d 1, 30, .inl (fun _ => 0))) :: ((q2, .inl (d 1, 30, .inl (fun _ => 0))) :: ((q1, .inl (d 1, 30, .inl (fun _ => 0))) :: [])))))))))))) := hD
  refine lv_aload_n hx hb dX1_init_98 rfl (lv_at hl 0 rfl) ?_
  refine lv_aload_n hx hb dX1_init_99 rfl (lv_at hl 2 rfl) ?_
  refine dx_putF (own := RX1) 1 1 (by decide) (by decide) dxw_282 (by decide +kernel) (by decide +kernel) (v := .ref x2) (by rw [dx_ty1_1]; rfl) (by rw [dx_ty1_1]; rfl) hown hin hx hb hts hK hP hD hS 0 (fs := [.ref x1, .null, .int 0, .int 0, .ref q1, .ref q2, .ref q3, .ref q4, .ref q5, .ref q6, .ref q7, .ref q8, .ref q9, .ref q10, .ref q11]) rfl (Nat.le_of_ble_eq_true rfl) dX1_init_100 (fun H locs hP hD hS => ?_)
  have hP : va_P D vwCl ((h0, .inr (1, [.ref x1, .ref x2, .int 0, .int 0, .ref q1, .ref q2, .ref q3, .ref q4, .ref q5, .ref q6, .ref q7, .ref q8, .ref q9, .ref q10, .ref q11])) :: ((q11, .inl (d 1, 8, .inl (fun _ => 0))) :: ((q10, .inl (d 1, 30, .inl (fun _ => 0))) :: ((q9, .inl (d 1, 6, .inl (fun _ => 0))) :: ((q8, .inl (d 1, 240, .inl (fun _ => 0))) :: ((q7, .inl (d 1, 30, .inl (fun _ => 0))) :: ((q6, .inl (d 1, 30, .inl (fun _ => 0))) :: ((q5, .inl (d 1, 30, .inl (fun _ => 0))) :: ((q4, .inl (d 1, 30, .inl (fun _ => 0))) :: ((q3, .inl (d 1, 30, .inl (fun _ => 0))) :: ((q2, .inl (d 1, 30, .inl (fun _ => 0))) :: ((q1, .inl (d 1, 30, .inl (fun _ => 0))) :: [])))))))))))) _ := hP
  have hD : va_D A ((h0, .inr (1, [.ref x1, .ref x2, .int 0, .int 0, .ref q1, .ref q2, .ref q3, .ref q4, .ref q5, .ref q6, .ref q7, .ref q8, .ref q9, .ref q10, .ref q11])) :: ((q11, .inl (d 1, 8, .inl (fun _ => 0))) :: ((q10, .inl (d 1, 30, .inl (fun _ => 0))) :: ((q9, .inl (d 1, 6, .inl (fun _ => 0))) :: ((q8, .inl (d 1, 240, .inl (fun _ => 0))) :: ((q7, .inl (d 1, 30, .inl (fun _ => 0))) :: ((q6, .inl (d 1, 30, .inl (fun _ => 0))) :: ((q5, .inl (d 1, 30, .inl (fun _ => 0))) :: ((q4, .inl (d 1, 30, .inl (fun _ => 0))) :: ((q3, .inl (d 1, 30, .inl (fun _ => 0))) :: ((q2, .inl (d 1, 30, .inl (fun _ => 0))) :: ((q1, .inl (d 1, 30, .inl (fun _ => 0))) :: [])))))))))))) := hD
  have hP9 : va_P D vwCl (wCrowd d x1 x2 (dx_ad [h0, q1, q2, q3, q4, q5, q6, q7, q8, q9, q10, q11])) _ := hP
  have hD9 : va_D A (wCrowd d x1 x2 (dx_ad [h0, q1, q2, q3, q4, q5, q6, q7, q8, q9, q10, q11])) := hD
  exact W.vret hx hb hr (fun t ht hW => ⟨⟨dx_ad [h0, q1, q2, q3, q4, q5, q6, q7, q8, q9, q10, q11], rfl, rfl, by rw [ht]; exact hP9, hD9⟩, hS.F ht⟩) hS.2.2 dX1_init_103
