def dx_uX (rt rows : Nat) (rd lv tr : Nat → Nat) (im : Nat) (ask : Nat → Nat) (hg bh : Nat) (rw : Nat → Nat → Nat) (i0 i1 : Nat → Nat) (k o : Nat) : Nat := if o < 28 then (if k = 0 then lv o else if k = 1 then tr o else if k = 2 then i0 o else i1 o) else if o = 28 then rt else if o = 29 then rd 0 else if o = 30 then rd 1 else if o = 31 then rows else if o = 32 then rw k 0 else if o = 33 then rw k 1 else if o = 34 then im else if o = 35 then ask 0 else if o = 36 then ask 1 else if o = 37 then hg else bh
theorem dX7_init_0 : decode cX7_init 0 = .ok (.aload_n 0, 1) := by decide +kernel
theorem dX7_init_1 : decode cX7_init 1 = .ok (.invokespecial 1, 3) := by decide +kernel
theorem dX7_init_4 : decode cX7_init 4 = .ok (.aload_n 0, 1) := by decide +kernel
theorem dX7_init_5 : decode cX7_init 5 = .ok (.bipush 8, 2) := by decide +kernel
theorem dX7_init_7 : decode cX7_init 7 = .ok (.anewarray 9, 3) := by decide +kernel
theorem dX7_init_10 : decode cX7_init 10 = .ok (.putfield 11, 3) := by decide +kernel
theorem dX7_init_13 : decode cX7_init 13 = .ok (.aload_n 0, 1) := by decide +kernel
theorem dX7_init_14 : decode cX7_init 14 = .ok (.new 15, 3) := by decide +kernel
theorem dX7_init_17 : decode cX7_init 17 = .ok (.dup, 1) := by decide +kernel
theorem dX7_init_18 : decode cX7_init 18 = .ok (.invokespecial 17, 3) := by decide +kernel
theorem dX7_init_21 : decode cX7_init 21 = .ok (.putfield 18, 3) := by decide +kernel
theorem dX7_init_24 : decode cX7_init 24 = .ok (.aload_n 0, 1) := by decide +kernel
theorem dX7_init_25 : decode cX7_init 25 = .ok (.new 22, 3) := by decide +kernel
theorem dX7_init_28 : decode cX7_init 28 = .ok (.dup, 1) := by decide +kernel
theorem dX7_init_29 : decode cX7_init 29 = .ok (.invokespecial 24, 3) := by decide +kernel
theorem dX7_init_32 : decode cX7_init 32 = .ok (.putfield 25, 3) := by decide +kernel
theorem dX7_init_35 : decode cX7_init 35 = .ok (.aload_n 0, 1) := by decide +kernel
theorem dX7_init_36 : decode cX7_init 36 = .ok (.new 22, 3) := by decide +kernel
theorem dX7_init_39 : decode cX7_init 39 = .ok (.dup, 1) := by decide +kernel
theorem dX7_init_40 : decode cX7_init 40 = .ok (.invokespecial 24, 3) := by decide +kernel
theorem dX7_init_43 : decode cX7_init 43 = .ok (.putfield 29, 3) := by decide +kernel
theorem dX7_init_46 : decode cX7_init 46 = .ok (.aload_n 0, 1) := by decide +kernel
theorem dX7_init_47 : decode cX7_init 47 = .ok (.iconst 2, 1) := by decide +kernel
theorem dX7_init_48 : decode cX7_init 48 = .ok (.anewarray 22, 3) := by decide +kernel
theorem dX7_init_51 : decode cX7_init 51 = .ok (.putfield 32, 3) := by decide +kernel
theorem dX7_init_54 : decode cX7_init 54 = .ok (.aload_n 0, 1) := by decide +kernel
theorem dX7_init_55 : decode cX7_init 55 = .ok (.new 36, 3) := by decide +kernel
theorem dX7_init_58 : decode cX7_init 58 = .ok (.dup, 1) := by decide +kernel
theorem dX7_init_59 : decode cX7_init 59 = .ok (.aload_n 0, 1) := by decide +kernel
theorem dX7_init_60 : decode cX7_init 60 = .ok (.getfield 25, 3) := by decide +kernel
theorem dX7_init_63 : decode cX7_init 63 = .ok (.getfield 38, 3) := by decide +kernel
theorem dX7_init_66 : decode cX7_init 66 = .ok (.invokespecial 42, 3) := by decide +kernel
theorem dX7_init_69 : decode cX7_init 69 = .ok (.putfield 45, 3) := by decide +kernel
theorem dX7_init_72 : decode cX7_init 72 = .ok (.aload_n 0, 1) := by decide +kernel
theorem dX7_init_73 : decode cX7_init 73 = .ok (.iconst 4, 1) := by decide +kernel
theorem dX7_init_74 : decode cX7_init 74 = .ok (.newarray .int, 2) := by decide +kernel
theorem dX7_init_76 : decode cX7_init 76 = .ok (.putfield 49, 3) := by decide +kernel
theorem dX7_init_79 : decode cX7_init 79 = .ok (.aload_n 0, 1) := by decide +kernel
theorem dX7_init_80 : decode cX7_init 80 = .ok (.iconst 4, 1) := by decide +kernel
theorem dX7_init_81 : decode cX7_init 81 = .ok (.newarray .int, 2) := by decide +kernel
theorem dX7_init_83 : decode cX7_init 83 = .ok (.putfield 53, 3) := by decide +kernel
theorem dX7_init_86 : decode cX7_init 86 = .ok (.iconst 0, 1) := by decide +kernel
theorem dX7_init_87 : decode cX7_init 87 = .ok (.istore_n 1, 1) := by decide +kernel
theorem dX7_init_88 : decode cX7_init 88 = .ok (.iload_n 1, 1) := by decide +kernel
theorem dX7_init_89 : decode cX7_init 89 = .ok (.bipush 8, 2) := by decide +kernel
theorem dX7_init_91 : decode cX7_init 91 = .ok (.if_icmp .ge 22, 3) := by decide +kernel
theorem dX7_init_94 : decode cX7_init 94 = .ok (.aload_n 0, 1) := by decide +kernel
theorem dX7_init_95 : decode cX7_init 95 = .ok (.getfield 11, 3) := by decide +kernel
theorem dX7_init_98 : decode cX7_init 98 = .ok (.iload_n 1, 1) := by decide +kernel
theorem dX7_init_99 : decode cX7_init 99 = .ok (.new 9, 3) := by decide +kernel
theorem dX7_init_102 : decode cX7_init 102 = .ok (.dup, 1) := by decide +kernel
theorem dX7_init_103 : decode cX7_init 103 = .ok (.invokespecial 56, 3) := by decide +kernel
theorem dX7_init_106 : decode cX7_init 106 = .ok (.aastore, 1) := by decide +kernel
theorem dX7_init_107 : decode cX7_init 107 = .ok (.iinc 1 1, 3) := by decide +kernel
theorem dX7_init_110 : decode cX7_init 110 = .ok (.goto (-22), 3) := by decide +kernel
theorem dX7_init_113 : decode cX7_init 113 = .ok (.iconst 0, 1) := by decide +kernel
theorem dX7_init_114 : decode cX7_init 114 = .ok (.istore_n 1, 1) := by decide +kernel
theorem dX7_init_115 : decode cX7_init 115 = .ok (.iload_n 1, 1) := by decide +kernel
theorem dX7_init_116 : decode cX7_init 116 = .ok (.iconst 2, 1) := by decide +kernel
theorem dX7_init_117 : decode cX7_init 117 = .ok (.if_icmp .ge 22, 3) := by decide +kernel
theorem dX7_init_120 : decode cX7_init 120 = .ok (.aload_n 0, 1) := by decide +kernel
theorem dX7_init_121 : decode cX7_init 121 = .ok (.getfield 32, 3) := by decide +kernel
theorem dX7_init_124 : decode cX7_init 124 = .ok (.iload_n 1, 1) := by decide +kernel
theorem dX7_init_125 : decode cX7_init 125 = .ok (.new 22, 3) := by decide +kernel
theorem dX7_init_128 : decode cX7_init 128 = .ok (.dup, 1) := by decide +kernel
theorem dX7_init_129 : decode cX7_init 129 = .ok (.invokespecial 24, 3) := by decide +kernel
theorem dX7_init_132 : decode cX7_init 132 = .ok (.aastore, 1) := by decide +kernel
theorem dX7_init_133 : decode cX7_init 133 = .ok (.iinc 1 1, 3) := by decide +kernel
theorem dX7_init_136 : decode cX7_init 136 = .ok (.goto (-21), 3) := by decide +kernel
theorem dX7_init_139 : decode cX7_init 139 = .ok (.return_, 1) := by decide +kernel
set_option maxRecDepth 100000 in
set_option maxHeartbeats 8000000 in
theorem k_X7 (l : Launch) (D : va_G) (d : Nat → ClassId) : dx_C l yX7_init cX7_init 2 { frames := 6, cells := 136, slots := 3537, locals := 200 } D d [] (.inr (7, [.null, .null, .null, .null, .null, .null, .null, .null, .int 0, .int 0])) (S := Nat → Nat → Nat) (fun q u => u 0 28 = q) (dx_wX D d) 136 3537 := by
  intro h0 sz
  refine Met.ofW (cc := cX7_init) (maxL := 2) (ret := none) (by decide) rfl ?_
  intro p e s m args below meth c s₁ B hml hv
  obtain ⟨rfl, hsz, hP, hK⟩ := hv
  have hx := B.exec
  have hb := B.bytes
  have hr := B.returns
  have hts : ∀ w ∈ lw_gd, w.before _ s = true := fun w hw => atoms_spec (ws := Cond.code yX7_init cX7_init 2 none :: lw_gd) B.pre w (List.mem_cons_of_mem _ hw)
  have hown : s.vm.findClass RX7 = some m.cls := findClass_of_methodNamed B.named
  have hlocks := B.notSynchronized
  have hin : meth.name = "<init>" := (name_of_methodNamed B.named B.method).1
  subst hsz
  have hD : va_D (va_A [(h0, .inr (7, [.null, .null, .null, .null, .null, .null, .null, .null, .int 0, .int 0]))] s.heap.size) [(h0, .inr (7, [.null, .null, .null, .null, .null, .null, .null, .null, .int 0, .int 0]))] := dx_D1
  generalize hAe : va_A [(h0, .inr (7, [.null, .null, .null, .null, .null, .null, .null, .null, .int 0, .int 0]))] s.heap.size = A at hD ⊢
  have hA : ∀ q : Nat, s.heap.size ≤ q → A q := fun q h => by rw [← hAe]; exact Or.inr h
  have hS : va_S A s.heap s.heap [] := va_S.rf
  have hl := lv_entry ([.ref h0]) (n := 2) (Nat.le_of_ble_eq_true rfl)
  rw [lg_entry_eq]
  generalize (lg_sl ([.ref h0]) ++ List.replicate (2 - (lg_sl ([.ref h0])).length) Slot.unset).toArray = ls at hl ⊢
  have hl : lv_has ls 2 [(0, .ref h0)] := hl
  refine lv_aload_n hx hb dX7_init_0 rfl (lv_at hl 0 rfl) ?_
  refine dx_obj (own := RX7) dxw_114 hown hx hb hts hml hl.1 (Nat.le_of_ble_eq_true rfl) (Nat.le_of_ble_eq_true rfl) dX7_init_1 ?_
  refine lv_aload_n hx hb dX7_init_4 rfl (lv_at hl 0 rfl) ?_
  refine lv_bipush (v := 8) hx hb dX7_init_5 (by decide) ?_
  refine dx_newq (own := RX7) (C := RX5) (d := d) (cA0 := d 4) (N := 8) (k1 := 1) (n1 := 8) 3 rfl hK.2.1.1 dxw_117 hown hx hb hts hK hP hD hS hA (by decide) (by decide) (by decide) rfl rfl (Nat.le_of_ble_eq_true rfl) (Nat.le_of_ble_eq_true rfl) dX7_init_7 (fun q1 H hP hD hS => ?_)
  have hP := dx_insP1 hP
  have hD := dx_insD1 hD
  have hP : va_P D vwCl ((h0, .inr (7, [.null, .null, .null, .null, .null, .null, .null, .null, .int 0, .int 0])) :: ((q1, .inl (d 4, 8, .inr (.inr (.inr (.inr (fun _ => none)))))) :: [])) _ := hP
  have hD : va_D A ((h0, .inr (7, [.null, .null, .null, .null, .null, .null, .null, .null, .int 0, .int 0])) :: ((q1, .inl (d 4, 8, .inr (.inr (.inr (.inr (fun _ => none)))))) :: [])) := hD
  refine dx_putF (own := RX7) 7 0 (by decide) (by decide) dxw_396 (by decide +kernel) (by decide +kernel) (v := .ref q1) (by rw [dx_ty7_0]; rfl) (by rw [dx_ty7_0]; rfl) hown hin hx hb hts hK hP hD hS 0 (fs := [.null, .null, .null, .null, .null, .null, .null, .null, .int 0, .int 0]) rfl (Nat.le_of_ble_eq_true rfl) dX7_init_10 (fun H locs hP hD hS => ?_)
  have hP : va_P D vwCl ((h0, .inr (7, [.ref q1, .null, .null, .null, .null, .null, .null, .null, .int 0, .int 0])) :: ((q1, .inl (d 4, 8, .inr (.inr (.inr (.inr (fun _ => none)))))) :: [])) _ := hP
  have hD : va_D A ((h0, .inr (7, [.ref q1, .null, .null, .null, .null, .null, .null, .null, .int 0, .int 0])) :: ((q1, .inl (d 4, 8, .inr (.inr (.inr (.inr (fun _ => none)))))) :: [])) := hD
  refine lv_aload_n hx hb dX7_init_13 rfl (lv_at hl 0 rfl) ?_
  refine dx_new (own := RX7) (d := d) (k1 := 2) (n1 := 16) 4 (by decide) (fs := [.null, .int 0, .int 0, .int 0, .int 0, .int 0, .int 0, .null]) dx_df4 dxw_119 dxw_120 dxw_93 hown hx hb hts hK hP hD hS hA rfl rfl (Nat.le_of_ble_eq_true rfl) (Nat.le_of_ble_eq_true rfl) dX7_init_14 (fun q2 H hP hD hS => ?_)
  refine lv_dup hx hb dX7_init_17 rfl ?_
  refine dx_call (As := []) (st := [.ref q2, .ref q2, .ref h0]) (rest := [.ref q2, .ref h0]) (k1 := 3) (n1 := 416) (own := RX7) (k_X4 l D d) (Or.inr (hK.2.2 (RX7, 17, yX4_init) (List.mem_of_getElem? (i := 0) rfl))) dx_cw4 dxw_93 dxw_122 rfl ⟨by decide, by decide, dx_na4⟩ ⟨rfl, rfl⟩ ⟨Nat.le_of_ble_eq_true rfl, Nat.le_of_ble_eq_true rfl⟩ hown hx hb hts hml hl.1 hK hP hD hS hA rfl rfl (Nat.le_of_ble_eq_true rfl) (Nat.le_of_ble_eq_true rfl) rfl (Nat.le_of_ble_eq_true rfl) dX7_init_18 (fun u2 H2 locs2 hw hP2 hD2 hS2 => ?_)
  have hw : u2 0 = q2 := hw
  subst hw
  have hP := hP2
  have hD := hD2
  have hS := hS2
  have hP := dx_insP2 hP
  have hD := dx_insD2 hD
  have hP : va_P D vwCl ((h0, .inr (7, [.ref q1, .null, .null, .null, .null, .null, .null, .null, .int 0, .int 0])) :: ((q1, .inl (d 4, 8, .inr (.inr (.inr (.inr (fun _ => none)))))) :: (wRead d u2 ++ []))) _ := hP
  have hD : va_D A ((h0, .inr (7, [.ref q1, .null, .null, .null, .null, .null, .null, .null, .int 0, .int 0])) :: ((q1, .inl (d 4, 8, .inr (.inr (.inr (.inr (fun _ => none)))))) :: (wRead d u2 ++ []))) := hD
  refine dx_putF (own := RX7) 7 1 (by decide) (by decide) dxw_397 (by decide +kernel) (by decide +kernel) (v := .ref (u2 0)) (by rw [dx_ty7_1]; rfl) (by rw [dx_ty7_1]; rfl) hown hin hx hb hts hK hP hD hS 0 (fs := [.ref q1, .null, .null, .null, .null, .null, .null, .null, .int 0, .int 0]) rfl (Nat.le_of_ble_eq_true rfl) dX7_init_21 (fun H locs hP hD hS => ?_)
  have hP : va_P D vwCl ((h0, .inr (7, [.ref q1, .ref (u2 0), .null, .null, .null, .null, .null, .null, .int 0, .int 0])) :: ((q1, .inl (d 4, 8, .inr (.inr (.inr (.inr (fun _ => none)))))) :: (wRead d u2 ++ []))) _ := hP
  have hD : va_D A ((h0, .inr (7, [.ref q1, .ref (u2 0), .null, .null, .null, .null, .null, .null, .int 0, .int 0])) :: ((q1, .inl (d 4, 8, .inr (.inr (.inr (.inr (fun _ => none)))))) :: (wRead d u2 ++ []))) := hD
  refine lv_aload_n hx hb dX7_init_24 rfl (lv_at hl 0 rfl) ?_
  refine dx_new (own := RX7) (d := d) (k1 := 4) (n1 := 419) 2 (by decide) (fs := [.null, .null, .null]) dx_df2 dxw_154 dxw_155 dxw_94 hown hx hb hts hK hP hD hS hA rfl rfl (Nat.le_of_ble_eq_true rfl) (Nat.le_of_ble_eq_true rfl) dX7_init_25 (fun q3 H hP hD hS => ?_)
  refine lv_dup hx hb dX7_init_28 rfl ?_
  refine dx_call (As := []) (st := [.ref q3, .ref q3, .ref h0]) (rest := [.ref q3, .ref h0]) (k1 := 31) (n1 := 1101) (own := RX7) (k_X2 l D d) (Or.inr (hK.2.2 (RX7, 24, yX2_init) (List.mem_of_getElem? (i := 1) rfl))) dx_cw2 dxw_94 dxw_157 rfl ⟨by decide, by decide, dx_na2⟩ ⟨rfl, rfl⟩ ⟨Nat.le_of_ble_eq_true rfl, Nat.le_of_ble_eq_true rfl⟩ hown hx hb hts hml hl.1 hK hP hD hS hA rfl rfl (Nat.le_of_ble_eq_true rfl) (Nat.le_of_ble_eq_true rfl) rfl (Nat.le_of_ble_eq_true rfl) dX7_init_29 (fun u3 H2 locs2 hw hP2 hD2 hS2 => ?_)
  have hw : u3 0 = q3 := hw
  subst hw
  have hP := hP2
  have hD := hD2
  have hS := hS2
  have hP := dx_insP2 hP
  have hD := dx_insD2 hD
  have hP : va_P D vwCl ((h0, .inr (7, [.ref q1, .ref (u2 0), .null, .null, .null, .null, .null, .null, .int 0, .int 0])) :: ((q1, .inl (d 4, 8, .inr (.inr (.inr (.inr (fun _ => none)))))) :: (hsW d u3 ++ (wRead d u2 ++ [])))) _ := hP
  have hD : va_D A ((h0, .inr (7, [.ref q1, .ref (u2 0), .null, .null, .null, .null, .null, .null, .int 0, .int 0])) :: ((q1, .inl (d 4, 8, .inr (.inr (.inr (.inr (fun _ => none)))))) :: (hsW d u3 ++ (wRead d u2 ++ [])))) := hD
  refine dx_putF (own := RX7) 7 2 (by decide) (by decide) dxw_398 (by decide +kernel) (by decide +kernel) (v := .ref (u3 0)) (by rw [dx_ty7_2]; rfl) (by rw [dx_ty7_2]; rfl) hown hin hx hb hts hK hP hD hS 0 (fs := [.ref q1, .ref (u2 0), .null, .null, .null, .null, .null, .null, .int 0, .int 0]) rfl (Nat.le_of_ble_eq_true rfl) dX7_init_32 (fun H locs hP hD hS => ?_)
  have hP : va_P D vwCl ((h0, .inr (7, [.ref q1, .ref (u2 0), .ref (u3 0), .null, .null, .null, .null, .null, .int 0, .int 0])) :: ((q1, .inl (d 4, 8, .inr (.inr (.inr (.inr (fun _ => none)))))) :: (hsW d u3 ++ (wRead d u2 ++ [])))) _ := hP
  have hD : va_D A ((h0, .inr (7, [.ref q1, .ref (u2 0), .ref (u3 0), .null, .null, .null, .null, .null, .int 0, .int 0])) :: ((q1, .inl (d 4, 8, .inr (.inr (.inr (.inr (fun _ => none)))))) :: (hsW d u3 ++ (wRead d u2 ++ [])))) := hD
  refine lv_aload_n hx hb dX7_init_35 rfl (lv_at hl 0 rfl) ?_
  refine dx_new (own := RX7) (d := d) (k1 := 32) (n1 := 1104) 2 (by decide) (fs := [.null, .null, .null]) dx_df2 dxw_154 dxw_155 dxw_94 hown hx hb hts hK hP hD hS hA rfl rfl (Nat.le_of_ble_eq_true rfl) (Nat.le_of_ble_eq_true rfl) dX7_init_36 (fun q4 H hP hD hS => ?_)
  refine lv_dup hx hb dX7_init_39 rfl ?_
  refine dx_call (As := []) (st := [.ref q4, .ref q4, .ref h0]) (rest := [.ref q4, .ref h0]) (k1 := 59) (n1 := 1786) (own := RX7) (k_X2 l D d) (Or.inr (hK.2.2 (RX7, 24, yX2_init) (List.mem_of_getElem? (i := 1) rfl))) dx_cw2 dxw_94 dxw_157 rfl ⟨by decide, by decide, dx_na2⟩ ⟨rfl, rfl⟩ ⟨Nat.le_of_ble_eq_true rfl, Nat.le_of_ble_eq_true rfl⟩ hown hx hb hts hml hl.1 hK hP hD hS hA rfl rfl (Nat.le_of_ble_eq_true rfl) (Nat.le_of_ble_eq_true rfl) rfl (Nat.le_of_ble_eq_true rfl) dX7_init_40 (fun u4 H2 locs2 hw hP2 hD2 hS2 => ?_)
  have hw : u4 0 = q4 := hw
  subst hw
  have hP := hP2
  have hD := hD2
  have hS := hS2
  have hP := dx_insP2 hP
  have hD := dx_insD2 hD
  have hP : va_P D vwCl ((h0, .inr (7, [.ref q1, .ref (u2 0), .ref (u3 0), .null, .null, .null, .null, .null, .int 0, .int 0])) :: ((q1, .inl (d 4, 8, .inr (.inr (.inr (.inr (fun _ => none)))))) :: (hsW d u4 ++ (hsW d u3 ++ (wRead d u2 ++ []))))) _ := hP
  have hD : va_D A ((h0, .inr (7, [.ref q1, .ref (u2 0), .ref (u3 0), .null, .null, .null, .null, .null, .int 0, .int 0])) :: ((q1, .inl (d 4, 8, .inr (.inr (.inr (.inr (fun _ => none)))))) :: (hsW d u4 ++ (hsW d u3 ++ (wRead d u2 ++ []))))) := hD
  refine dx_putF (own := RX7) 7 3 (by decide) (by decide) dxw_399 (by decide +kernel) (by decide +kernel) (v := .ref (u4 0)) (by rw [dx_ty7_3]; rfl) (by rw [dx_ty7_3]; rfl) hown hin hx hb hts hK hP hD hS 0 (fs := [.ref q1, .ref (u2 0), .ref (u3 0), .null, .null, .null, .null, .null, .int 0, .int 0]) rfl (Nat.le_of_ble_eq_true rfl) dX7_init_43 (fun H locs hP hD hS => ?_)
  have hP : va_P D vwCl ((h0, .inr (7, [.ref q1, .ref (u2 0), .ref (u3 0), .ref (u4 0), .null, .null, .null, .null, .int 0, .int 0])) :: ((q1, .inl (d 4, 8, .inr (.inr (.inr (.inr (fun _ => none)))))) :: (hsW d u4 ++ (hsW d u3 ++ (wRead d u2 ++ []))))) _ := hP
  have hD : va_D A ((h0, .inr (7, [.ref q1, .ref (u2 0), .ref (u3 0), .ref (u4 0), .null, .null, .null, .null, .int 0, .int 0])) :: ((q1, .inl (d 4, 8, .inr (.inr (.inr (.inr (fun _ => none)))))) :: (hsW d u4 ++ (hsW d u3 ++ (wRead d u2 ++ []))))) := hD
  refine lv_aload_n hx hb dX7_init_46 rfl (lv_at hl 0 rfl) ?_
  refine lv_iconst (v := 2) hx hb dX7_init_47 (by decide) ?_
  refine dx_newq (own := RX7) (C := RX2) (d := d) (cA0 := d 5) (N := 2) (k1 := 60) (n1 := 1788) 4 rfl hK.2.1.2 dxw_154 hown hx hb hts hK hP hD hS hA (by decide) (by decide) (by decide) rfl rfl (Nat.le_of_ble_eq_true rfl) (Nat.le_of_ble_eq_true rfl) dX7_init_48 (fun q5 H hP hD hS => ?_)
  have hP := dx_insP2 hP
  have hD := dx_insD2 hD
  have hP : va_P D vwCl ((h0, .inr (7, [.ref q1, .ref (u2 0), .ref (u3 0), .ref (u4 0), .null, .null, .null, .null, .int 0, .int 0])) :: ((q1, .inl (d 4, 8, .inr (.inr (.inr (.inr (fun _ => none)))))) :: ((q5, .inl (d 5, 2, .inr (.inr (.inr (.inr (fun _ => none)))))) :: (hsW d u4 ++ (hsW d u3 ++ (wRead d u2 ++ [])))))) _ := hP
  have hD : va_D A ((h0, .inr (7, [.ref q1, .ref (u2 0), .ref (u3 0), .ref (u4 0), .null, .null, .null, .null, .int 0, .int 0])) :: ((q1, .inl (d 4, 8, .inr (.inr (.inr (.inr (fun _ => none)))))) :: ((q5, .inl (d 5, 2, .inr (.inr (.inr (.inr (fun _ => none)))))) :: (hsW d u4 ++ (hsW d u3 ++ (wRead d u2 ++ [])))))) := hD
  refine dx_putF (own := RX7) 7 4 (by decide) (by decide) dxw_400 (by decide +kernel) (by decide +kernel) (v := .ref q5) (by rw [dx_ty7_4]; rfl) (by rw [dx_ty7_4]; rfl) hown hin hx hb hts hK hP hD hS 0 (fs := [.ref q1, .ref (u2 0), .ref (u3 0), .ref (u4 0), .null, .null, .null, .null, .int 0, .int 0]) rfl (Nat.le_of_ble_eq_true rfl) dX7_init_51 (fun H locs hP hD hS => ?_)
  have hP : va_P D vwCl ((h0, .inr (7, [.ref q1, .ref (u2 0), .ref (u3 0), .ref (u4 0), .ref q5, .null, .null, .null, .int 0, .int 0])) :: ((q1, .inl (d 4, 8, .inr (.inr (.inr (.inr (fun _ => none)))))) :: ((q5, .inl (d 5, 2, .inr (.inr (.inr (.inr (fun _ => none)))))) :: (hsW d u4 ++ (hsW d u3 ++ (wRead d u2 ++ [])))))) _ := hP
  have hD : va_D A ((h0, .inr (7, [.ref q1, .ref (u2 0), .ref (u3 0), .ref (u4 0), .ref q5, .null, .null, .null, .int 0, .int 0])) :: ((q1, .inl (d 4, 8, .inr (.inr (.inr (.inr (fun _ => none)))))) :: ((q5, .inl (d 5, 2, .inr (.inr (.inr (.inr (fun _ => none)))))) :: (hsW d u4 ++ (hsW d u3 ++ (wRead d u2 ++ [])))))) := hD
  refine lv_aload_n hx hb dX7_init_54 rfl (lv_at hl 0 rfl) ?_
  refine dx_new (own := RX7) (d := d) (k1 := 61) (n1 := 1791) 0 (by decide) (fs := [.null, .null, .int 0]) dx_df0 dxw_356 dxw_357 dxw_98 hown hx hb hts hK hP hD hS hA rfl rfl (Nat.le_of_ble_eq_true rfl) (Nat.le_of_ble_eq_true rfl) dX7_init_55 (fun q6 H hP hD hS => ?_)
  refine lv_dup hx hb dX7_init_58 rfl ?_
  refine lv_aload_n hx hb dX7_init_59 rfl (lv_at hl 0 rfl) ?_
  refine dx_get (own := RX7) 7 2 (by decide) (by decide) dxw_398 hown hx hb hts hK hP 0 (fs := [.ref q1, .ref (u2 0), .ref (u3 0), .ref (u4 0), .ref q5, .null, .null, .null, .int 0, .int 0]) rfl (v := .ref (u3 0)) rfl dX7_init_60 ?_
  refine dx_get (own := RX7) 2 2 (by decide) (by decide) dxw_347 hown hx hb hts hK hP 31 (fs := [.ref (u3 1), .ref (u3 13), .ref (u3 16)]) rfl (v := .ref (u3 16)) rfl dX7_init_63 ?_
  refine dx_call (As := [.ref (u3 16)]) (st := [.ref (u3 16), .ref q6, .ref q6, .ref h0]) (rest := [.ref q6, .ref h0]) (k1 := 62) (n1 := 1807) (own := RX7) (k_X0 l D d (u3 16)) (Or.inl dxw_358) dx_cw0 dxw_98 dxw_359 rfl ⟨by decide, by decide, dx_na0⟩ ⟨rfl, rfl⟩ ⟨Nat.le_of_ble_eq_true rfl, Nat.le_of_ble_eq_true rfl⟩ hown hx hb hts hml hl.1 hK hP hD hS hA rfl rfl (Nat.le_of_ble_eq_true rfl) (Nat.le_of_ble_eq_true rfl) rfl (Nat.le_of_ble_eq_true rfl) dX7_init_66 (fun u6 H2 locs2 hw hP2 hD2 hS2 => ?_)
  have hw : u6 0 = q6 := hw
  subst hw
  have hP := hP2
  have hD := hD2
  have hS := hS2
  have hP := dx_insP3 hP
  have hD := dx_insD3 hD
  have hP : va_P D vwCl ((h0, .inr (7, [.ref q1, .ref (u2 0), .ref (u3 0), .ref (u4 0), .ref q5, .null, .null, .null, .int 0, .int 0])) :: ((q1, .inl (d 4, 8, .inr (.inr (.inr (.inr (fun _ => none)))))) :: ((q5, .inl (d 5, 2, .inr (.inr (.inr (.inr (fun _ => none)))))) :: (wAsks d (u3 16) u6 ++ (hsW d u4 ++ (hsW d u3 ++ (wRead d u2 ++ []))))))) _ := hP
  have hD : va_D A ((h0, .inr (7, [.ref q1, .ref (u2 0), .ref (u3 0), .ref (u4 0), .ref q5, .null, .null, .null, .int 0, .int 0])) :: ((q1, .inl (d 4, 8, .inr (.inr (.inr (.inr (fun _ => none)))))) :: ((q5, .inl (d 5, 2, .inr (.inr (.inr (.inr (fun _ => none)))))) :: (wAsks d (u3 16) u6 ++ (hsW d u4 ++ (hsW d u3 ++ (wRead d u2 ++ []))))))) := hD
  refine dx_putF (own := RX7) 7 5 (by decide) (by decide) dxw_401 (by decide +kernel) (by decide +kernel) (v := .ref (u6 0)) (by rw [dx_ty7_5]; rfl) (by rw [dx_ty7_5]; rfl) hown hin hx hb hts hK hP hD hS 0 (fs := [.ref q1, .ref (u2 0), .ref (u3 0), .ref (u4 0), .ref q5, .null, .null, .null, .int 0, .int 0]) rfl (Nat.le_of_ble_eq_true rfl) dX7_init_69 (fun H locs hP hD hS => ?_)
  have hP : va_P D vwCl ((h0, .inr (7, [.ref q1, .ref (u2 0), .ref (u3 0), .ref (u4 0), .ref q5, .ref (u6 0), .null, .null, .int 0, .int 0])) :: ((q1, .inl (d 4, 8, .inr (.inr (.inr (.inr (fun _ => none)))))) :: ((q5, .inl (d 5, 2, .inr (.inr (.inr (.inr (fun _ => none)))))) :: (wAsks d (u3 16) u6 ++ (hsW d u4 ++ (hsW d u3 ++ (wRead d u2 ++ []))))))) _ := hP
  have hD : va_D A ((h0, .inr (7, [.ref q1, .ref (u2 0), .ref (u3 0), .ref (u4 0), .ref q5, .ref (u6 0), .null, .null, .int 0, .int 0])) :: ((q1, .inl (d 4, 8, .inr (.inr (.inr (.inr (fun _ => none)))))) :: ((q5, .inl (d 5, 2, .inr (.inr (.inr (.inr (fun _ => none)))))) :: (wAsks d (u3 16) u6 ++ (hsW d u4 ++ (hsW d u3 ++ (wRead d u2 ++ []))))))) := hD
  refine lv_aload_n hx hb dX7_init_72 rfl (lv_at hl 0 rfl) ?_
  refine lv_iconst (v := 4) hx hb dX7_init_73 (by decide) ?_
  refine dx_newi (d := d) (N := 4) (k1 := 63) (n1 := 1811) hx hb hts hK hP hD hS hA (by decide) (by decide) (by decide) rfl rfl (Nat.le_of_ble_eq_true rfl) (Nat.le_of_ble_eq_true rfl) dX7_init_74 (fun q7 H hP hD hS => ?_)
  have hP := dx_insP3 hP
  have hD := dx_insD3 hD
  have hP : va_P D vwCl ((h0, .inr (7, [.ref q1, .ref (u2 0), .ref (u3 0), .ref (u4 0), .ref q5, .ref (u6 0), .null, .null, .int 0, .int 0])) :: ((q1, .inl (d 4, 8, .inr (.inr (.inr (.inr (fun _ => none)))))) :: ((q5, .inl (d 5, 2, .inr (.inr (.inr (.inr (fun _ => none)))))) :: ((q7, .inl (d 1, 4, .inl (fun _ => 0))) :: (wAsks d (u3 16) u6 ++ (hsW d u4 ++ (hsW d u3 ++ (wRead d u2 ++ [])))))))) _ := hP
  have hD : va_D A ((h0, .inr (7, [.ref q1, .ref (u2 0), .ref (u3 0), .ref (u4 0), .ref q5, .ref (u6 0), .null, .null, .int 0, .int 0])) :: ((q1, .inl (d 4, 8, .inr (.inr (.inr (.inr (fun _ => none)))))) :: ((q5, .inl (d 5, 2, .inr (.inr (.inr (.inr (fun _ => none)))))) :: ((q7, .inl (d 1, 4, .inl (fun _ => 0))) :: (wAsks d (u3 16) u6 ++ (hsW d u4 ++ (hsW d u3 ++ (wRead d u2 ++ [])))))))) := hD
  refine dx_putF (own := RX7) 7 6 (by decide) (by decide) dxw_402 (by decide +kernel) (by decide +kernel) (v := .ref q7) (by rw [dx_ty7_6]; rfl) (by rw [dx_ty7_6]; rfl) hown hin hx hb hts hK hP hD hS 0 (fs := [.ref q1, .ref (u2 0), .ref (u3 0), .ref (u4 0), .ref q5, .ref (u6 0), .null, .null, .int 0, .int 0]) rfl (Nat.le_of_ble_eq_true rfl) dX7_init_76 (fun H locs hP hD hS => ?_)
  have hP : va_P D vwCl ((h0, .inr (7, [.ref q1, .ref (u2 0), .ref (u3 0), .ref (u4 0), .ref q5, .ref (u6 0), .ref q7, .null, .int 0, .int 0])) :: ((q1, .inl (d 4, 8, .inr (.inr (.inr (.inr (fun _ => none)))))) :: ((q5, .inl (d 5, 2, .inr (.inr (.inr (.inr (fun _ => none)))))) :: ((q7, .inl (d 1, 4, .inl (fun _ => 0))) :: (wAsks d (u3 16) u6 ++ (hsW d u4 ++ (hsW d u3 ++ (wRead d u2 ++ [])))))))) _ := hP
  have hD : va_D A ((h0, .inr (7, [.ref q1, .ref (u2 0), .ref (u3 0), .ref (u4 0), .ref q5, .ref (u6 0), .ref q7, .null, .int 0, .int 0])) :: ((q1, .inl (d 4, 8, .inr (.inr (.inr (.inr (fun _ => none)))))) :: ((q5, .inl (d 5, 2, .inr (.inr (.inr (.inr (fun _ => none)))))) :: ((q7, .inl (d 1, 4, .inl (fun _ => 0))) :: (wAsks d (u3 16) u6 ++ (hsW d u4 ++ (hsW d u3 ++ (wRead d u2 ++ [])))))))) := hD
  refine lv_aload_n hx hb dX7_init_79 rfl (lv_at hl 0 rfl) ?_
  refine lv_iconst (v := 4) hx hb dX7_init_80 (by decide) ?_
  refine dx_newi (d := d) (N := 4) (k1 := 64) (n1 := 1815) hx hb hts hK hP hD hS hA (by decide) (by decide) (by decide) rfl rfl (Nat.le_of_ble_eq_true rfl) (Nat.le_of_ble_eq_true rfl) dX7_init_81 (fun q8 H hP hD hS => ?_)
  have hP := dx_insP3 hP
  have hD := dx_insD3 hD
  have hP : va_P D vwCl ((h0, .inr (7, [.ref q1, .ref (u2 0), .ref (u3 0), .ref (u4 0), .ref q5, .ref (u6 0), .ref q7, .null, .int 0, .int 0])) :: ((q1, .inl (d 4, 8, .inr (.inr (.inr (.inr (fun _ => none)))))) :: ((q5, .inl (d 5, 2, .inr (.inr (.inr (.inr (fun _ => none)))))) :: ((q8, .inl (d 1, 4, .inl (fun _ => 0))) :: ((q7, .inl (d 1, 4, .inl (fun _ => 0))) :: (wAsks d (u3 16) u6 ++ (hsW d u4 ++ (hsW d u3 ++ (wRead d u2 ++ []))))))))) _ := hP
  have hD : va_D A ((h0, .inr (7, [.ref q1, .ref (u2 0), .ref (u3 0), .ref (u4 0), .ref q5, .ref (u6 0), .ref q7, .null, .int 0, .int 0])) :: ((q1, .inl (d 4, 8, .inr (.inr (.inr (.inr (fun _ => none)))))) :: ((q5, .inl (d 5, 2, .inr (.inr (.inr (.inr (fun _ => none)))))) :: ((q8, .inl (d 1, 4, .inl (fun _ => 0))) :: ((q7, .inl (d 1, 4, .inl (fun _ => 0))) :: (wAsks d (u3 16) u6 ++ (hsW d u4 ++ (hsW d u3 ++ (wRead d u2 ++ []))))))))) := hD
  refine dx_putF (own := RX7) 7 7 (by decide) (by decide) dxw_403 (by decide +kernel) (by decide +kernel) (v := .ref q8) (by rw [dx_ty7_7]; rfl) (by rw [dx_ty7_7]; rfl) hown hin hx hb hts hK hP hD hS 0 (fs := [.ref q1, .ref (u2 0), .ref (u3 0), .ref (u4 0), .ref q5, .ref (u6 0), .ref q7, .null, .int 0, .int 0]) rfl (Nat.le_of_ble_eq_true rfl) dX7_init_83 (fun H locs hP hD hS => ?_)
  have hP : va_P D vwCl ((h0, .inr (7, [.ref q1, .ref (u2 0), .ref (u3 0), .ref (u4 0), .ref q5, .ref (u6 0), .ref q7, .ref q8, .int 0, .int 0])) :: ((q1, .inl (d 4, 8, .inr (.inr (.inr (.inr (fun _ => none)))))) :: ((q5, .inl (d 5, 2, .inr (.inr (.inr (.inr (fun _ => none)))))) :: ((q8, .inl (d 1, 4, .inl (fun _ => 0))) :: ((q7, .inl (d 1, 4, .inl (fun _ => 0))) :: (wAsks d (u3 16) u6 ++ (hsW d u4 ++ (hsW d u3 ++ (wRead d u2 ++ []))))))))) _ := hP
  have hD : va_D A ((h0, .inr (7, [.ref q1, .ref (u2 0), .ref (u3 0), .ref (u4 0), .ref q5, .ref (u6 0), .ref q7, .ref q8, .int 0, .int 0])) :: ((q1, .inl (d 4, 8, .inr (.inr (.inr (.inr (fun _ => none)))))) :: ((q5, .inl (d 5, 2, .inr (.inr (.inr (.inr (fun _ => none)))))) :: ((q8, .inl (d 1, 4, .inl (fun _ => 0))) :: ((q7, .inl (d 1, 4, .inl (fun _ => 0))) :: (wAsks d (u3 16) u6 ++ (hsW d u4 ++ (hsW d u3 ++ (wRead d u2 ++ []))))))))) := hD
  refine lv_iconst (v := 0) hx hb dX7_init_86 (by decide) ?_
  refine lv_istore_n (lv' := [(1, .int 0), (0, .ref h0)]) hx hb dX7_init_87 rfl hl (by decide) rfl (fun ls hl => ?_)
  refine lv_iload_n hx hb dX7_init_88 rfl (lv_at hl 0 rfl) ?_
  refine lv_bipush (v := 8) hx hb dX7_init_89 (by decide) ?_
  refine lv_icmp_ge (tgt := 113) hx hb dX7_init_91 (by decide) (fun z => absurd z (by decide)) (fun _ => ?_)
  refine lv_aload_n hx hb dX7_init_94 rfl (lv_at hl 1 rfl) ?_
  refine dx_get (own := RX7) 7 0 (by decide) (by decide) dxw_396 hown hx hb hts hK hP 0 (fs := [.ref q1, .ref (u2 0), .ref (u3 0), .ref (u4 0), .ref q5, .ref (u6 0), .ref q7, .ref q8, .int 0, .int 0]) rfl (v := .ref q1) rfl dX7_init_95 ?_
  refine lv_iload_n hx hb dX7_init_98 rfl (lv_at hl 0 rfl) ?_
  refine dx_new (own := RX7) (d := d) (k1 := 65) (n1 := 1819) 5 (by decide) (fs := [.null, .int 0, .int 0, .int 0]) dx_df5 dxw_117 dxw_374 dxw_99 hown hx hb hts hK hP hD hS hA rfl rfl (Nat.le_of_ble_eq_true rfl) (Nat.le_of_ble_eq_true rfl) dX7_init_99 (fun q9 H hP hD hS => ?_)
  refine lv_dup hx hb dX7_init_102 rfl ?_
  refine dx_call (As := []) (st := [.ref q9, .ref q9, .int 0, .ref q1]) (rest := [.ref q9, .int 0, .ref q1]) (k1 := 66) (n1 := 1859) (own := RX7) (k_X5 l D d) (Or.inr (hK.2.2 (RX7, 56, yX5_init) (List.mem_of_getElem? (i := 4) rfl))) dx_cw5 dxw_99 dxw_376 rfl ⟨by decide, by decide, dx_na5⟩ ⟨rfl, rfl⟩ ⟨Nat.le_of_ble_eq_true rfl, Nat.le_of_ble_eq_true rfl⟩ hown hx hb hts hml hl.1 hK hP hD hS hA rfl rfl (Nat.le_of_ble_eq_true rfl) (Nat.le_of_ble_eq_true rfl) rfl (Nat.le_of_ble_eq_true rfl) dX7_init_103 (fun u9 H2 locs2 hw hP2 hD2 hS2 => ?_)
  have hw : u9 0 = q9 := hw
  subst hw
  have hP := hP2
  have hD := hD2
  have hS := hS2
  have hP := dx_insP3 hP
  have hD := dx_insD3 hD
  have hP : va_P D vwCl ((h0, .inr (7, [.ref q1, .ref (u2 0), .ref (u3 0), .ref (u4 0), .ref q5, .ref (u6 0), .ref q7, .ref q8, .int 0, .int 0])) :: ((q1, .inl (d 4, 8, .inr (.inr (.inr (.inr (fun _ => none)))))) :: ((q5, .inl (d 5, 2, .inr (.inr (.inr (.inr (fun _ => none)))))) :: (wRow d u9 ++ ((q8, .inl (d 1, 4, .inl (fun _ => 0))) :: ((q7, .inl (d 1, 4, .inl (fun _ => 0))) :: (wAsks d (u3 16) u6 ++ (hsW d u4 ++ (hsW d u3 ++ (wRead d u2 ++ [])))))))))) _ := hP
  have hD : va_D A ((h0, .inr (7, [.ref q1, .ref (u2 0), .ref (u3 0), .ref (u4 0), .ref q5, .ref (u6 0), .ref q7, .ref q8, .int 0, .int 0])) :: ((q1, .inl (d 4, 8, .inr (.inr (.inr (.inr (fun _ => none)))))) :: ((q5, .inl (d 5, 2, .inr (.inr (.inr (.inr (fun _ => none)))))) :: (wRow d u9 ++ ((q8, .inl (d 1, 4, .inl (fun _ => 0))) :: ((q7, .inl (d 1, 4, .inl (fun _ => 0))) :: (wAsks d (u3 16) u6 ++ (hsW d u4 ++ (hsW d u3 ++ (wRead d u2 ++ [])))))))))) := hD
  refine va_astq hx hb hK.1 hP hD hS 1 3 3 5 (n := 8) (v := (u9 0)) (vs := [.ref (u9 1), .int 1, .int 0, .int 0]) (r := mx_cl 5) (f := fun _ => none) rfl rfl rfl (mx_cl_at (by decide)) (i := 0) (show ¬ ((0 : Int32) < 0 ∨ 8 ≤ (0 : Int32).toNatClampNeg) by decide) dX7_init_106 (fun H locs hP hD hS => ?_)
  have hP : va_P D vwCl ((h0, .inr (7, [.ref q1, .ref (u2 0), .ref (u3 0), .ref (u4 0), .ref q5, .ref (u6 0), .ref q7, .ref q8, .int 0, .int 0])) :: ((q1, .inl (d 4, 8, .inr (.inr (.inr (.inr (va_up (fun _ => none) 0 (some (u9 0)))))))) :: ((q5, .inl (d 5, 2, .inr (.inr (.inr (.inr (fun _ => none)))))) :: (wRow d u9 ++ ((q8, .inl (d 1, 4, .inl (fun _ => 0))) :: ((q7, .inl (d 1, 4, .inl (fun _ => 0))) :: (wAsks d (u3 16) u6 ++ (hsW d u4 ++ (hsW d u3 ++ (wRead d u2 ++ [])))))))))) _ := hP
  have hD : va_D A ((h0, .inr (7, [.ref q1, .ref (u2 0), .ref (u3 0), .ref (u4 0), .ref q5, .ref (u6 0), .ref q7, .ref q8, .int 0, .int 0])) :: ((q1, .inl (d 4, 8, .inr (.inr (.inr (.inr (va_up (fun _ => none) 0 (some (u9 0)))))))) :: ((q5, .inl (d 5, 2, .inr (.inr (.inr (.inr (fun _ => none)))))) :: (wRow d u9 ++ ((q8, .inl (d 1, 4, .inl (fun _ => 0))) :: ((q7, .inl (d 1, 4, .inl (fun _ => 0))) :: (wAsks d (u3 16) u6 ++ (hsW d u4 ++ (hsW d u3 ++ (wRead d u2 ++ [])))))))))) := hD
  refine lv_iinc (v := 1) (lv' := [(1, .int 1), (0, .ref h0)]) hx hb dX7_init_107 hl (k := 0) rfl (by decide) (by decide) rfl (fun ls hl => ?_)
  refine lv_goto (tgt := 88) hx hb dX7_init_110 (by decide) ?_
  refine lv_iload_n hx hb dX7_init_88 rfl (lv_at hl 0 rfl) ?_
  refine lv_bipush (v := 8) hx hb dX7_init_89 (by decide) ?_
  refine lv_icmp_ge (tgt := 113) hx hb dX7_init_91 (by decide) (fun z => absurd z (by decide)) (fun _ => ?_)
  refine lv_aload_n hx hb dX7_init_94 rfl (lv_at hl 1 rfl) ?_
  refine dx_get (own := RX7) 7 0 (by decide) (by decide) dxw_396 hown hx hb hts hK hP 0 (fs := [.ref q1, .ref (u2 0), .ref (u3 0), .ref (u4 0), .ref q5, .ref (u6 0), .ref q7, .ref q8, .int 0, .int 0]) rfl (v := .ref q1) rfl dX7_init_95 ?_
  refine lv_iload_n hx hb dX7_init_98 rfl (lv_at hl 0 rfl) ?_
  refine dx_new (own := RX7) (d := d) (k1 := 67) (n1 := 1863) 5 (by decide) (fs := [.null, .int 0, .int 0, .int 0]) dx_df5 dxw_117 dxw_374 dxw_99 hown hx hb hts hK hP hD hS hA rfl rfl (Nat.le_of_ble_eq_true rfl) (Nat.le_of_ble_eq_true rfl) dX7_init_99 (fun q10 H hP hD hS => ?_)
  refine lv_dup hx hb dX7_init_102 rfl ?_
  refine dx_call (As := []) (st := [.ref q10, .ref q10, .int 1, .ref q1]) (rest := [.ref q10, .int 1, .ref q1]) (k1 := 68) (n1 := 1903) (own := RX7) (k_X5 l D d) (Or.inr (hK.2.2 (RX7, 56, yX5_init) (List.mem_of_getElem? (i := 4) rfl))) dx_cw5 dxw_99 dxw_376 rfl ⟨by decide, by decide, dx_na5⟩ ⟨rfl, rfl⟩ ⟨Nat.le_of_ble_eq_true rfl, Nat.le_of_ble_eq_true rfl⟩ hown hx hb hts hml hl.1 hK hP hD hS hA rfl rfl (Nat.le_of_ble_eq_true rfl) (Nat.le_of_ble_eq_true rfl) rfl (Nat.le_of_ble_eq_true rfl) dX7_init_103 (fun u10 H2 locs2 hw hP2 hD2 hS2 => ?_)
  have hw : u10 0 = q10 := hw
  subst hw
  have hP := hP2
  have hD := hD2
  have hS := hS2
  have hP := dx_insP3 hP
  have hD := dx_insD3 hD
  have hP : va_P D vwCl ((h0, .inr (7, [.ref q1, .ref (u2 0), .ref (u3 0), .ref (u4 0), .ref q5, .ref (u6 0), .ref q7, .ref q8, .int 0, .int 0])) :: ((q1, .inl (d 4, 8, .inr (.inr (.inr (.inr (va_up (fun _ => none) 0 (some (u9 0)))))))) :: ((q5, .inl (d 5, 2, .inr (.inr (.inr (.inr (fun _ => none)))))) :: (wRow d u10 ++ (wRow d u9 ++ ((q8, .inl (d 1, 4, .inl (fun _ => 0))) :: ((q7, .inl (d 1, 4, .inl (fun _ => 0))) :: (wAsks d (u3 16) u6 ++ (hsW d u4 ++ (hsW d u3 ++ (wRead d u2 ++ []))))))))))) _ := hP
  have hD : va_D A ((h0, .inr (7, [.ref q1, .ref (u2 0), .ref (u3 0), .ref (u4 0), .ref q5, .ref (u6 0), .ref q7, .ref q8, .int 0, .int 0])) :: ((q1, .inl (d 4, 8, .inr (.inr (.inr (.inr (va_up (fun _ => none) 0 (some (u9 0)))))))) :: ((q5, .inl (d 5, 2, .inr (.inr (.inr (.inr (fun _ => none)))))) :: (wRow d u10 ++ (wRow d u9 ++ ((q8, .inl (d 1, 4, .inl (fun _ => 0))) :: ((q7, .inl (d 1, 4, .inl (fun _ => 0))) :: (wAsks d (u3 16) u6 ++ (hsW d u4 ++ (hsW d u3 ++ (wRead d u2 ++ []))))))))))) := hD
  refine va_astq hx hb hK.1 hP hD hS 1 3 3 5 (n := 8) (v := (u10 0)) (vs := [.ref (u10 1), .int 1, .int 0, .int 0]) (r := mx_cl 5) (f := va_up (fun _ => none) 0 (some (u9 0))) rfl rfl rfl (mx_cl_at (by decide)) (i := 1) (show ¬ ((1 : Int32) < 0 ∨ 8 ≤ (1 : Int32).toNatClampNeg) by decide) dX7_init_106 (fun H locs hP hD hS => ?_)
  have hP : va_P D vwCl ((h0, .inr (7, [.ref q1, .ref (u2 0), .ref (u3 0), .ref (u4 0), .ref q5, .ref (u6 0), .ref q7, .ref q8, .int 0, .int 0])) :: ((q1, .inl (d 4, 8, .inr (.inr (.inr (.inr (va_up (va_up (fun _ => none) 0 (some (u9 0))) 1 (some (u10 0)))))))) :: ((q5, .inl (d 5, 2, .inr (.inr (.inr (.inr (fun _ => none)))))) :: (wRow d u10 ++ (wRow d u9 ++ ((q8, .inl (d 1, 4, .inl (fun _ => 0))) :: ((q7, .inl (d 1, 4, .inl (fun _ => 0))) :: (wAsks d (u3 16) u6 ++ (hsW d u4 ++ (hsW d u3 ++ (wRead d u2 ++ []))))))))))) _ := hP
  have hD : va_D A ((h0, .inr (7, [.ref q1, .ref (u2 0), .ref (u3 0), .ref (u4 0), .ref q5, .ref (u6 0), .ref q7, .ref q8, .int 0, .int 0])) :: ((q1, .inl (d 4, 8, .inr (.inr (.inr (.inr (va_up (va_up (fun _ => none) 0 (some (u9 0))) 1 (some (u10 0)))))))) :: ((q5, .inl (d 5, 2, .inr (.inr (.inr (.inr (fun _ => none)))))) :: (wRow d u10 ++ (wRow d u9 ++ ((q8, .inl (d 1, 4, .inl (fun _ => 0))) :: ((q7, .inl (d 1, 4, .inl (fun _ => 0))) :: (wAsks d (u3 16) u6 ++ (hsW d u4 ++ (hsW d u3 ++ (wRead d u2 ++ []))))))))))) := hD
  refine lv_iinc (v := 2) (lv' := [(1, .int 2), (0, .ref h0)]) hx hb dX7_init_107 hl (k := 0) rfl (by decide) (by decide) rfl (fun ls hl => ?_)
  refine lv_goto (tgt := 88) hx hb dX7_init_110 (by decide) ?_
  refine lv_iload_n hx hb dX7_init_88 rfl (lv_at hl 0 rfl) ?_
  refine lv_bipush (v := 8) hx hb dX7_init_89 (by decide) ?_
  refine lv_icmp_ge (tgt := 113) hx hb dX7_init_91 (by decide) (fun z => absurd z (by decide)) (fun _ => ?_)
  refine lv_aload_n hx hb dX7_init_94 rfl (lv_at hl 1 rfl) ?_
  refine dx_get (own := RX7) 7 0 (by decide) (by decide) dxw_396 hown hx hb hts hK hP 0 (fs := [.ref q1, .ref (u2 0), .ref (u3 0), .ref (u4 0), .ref q5, .ref (u6 0), .ref q7, .ref q8, .int 0, .int 0]) rfl (v := .ref q1) rfl dX7_init_95 ?_
  refine lv_iload_n hx hb dX7_init_98 rfl (lv_at hl 0 rfl) ?_
  refine dx_new (own := RX7) (d := d) (k1 := 69) (n1 := 1907) 5 (by decide) (fs := [.null, .int 0, .int 0, .int 0]) dx_df5 dxw_117 dxw_374 dxw_99 hown hx hb hts hK hP hD hS hA rfl rfl (Nat.le_of_ble_eq_true rfl) (Nat.le_of_ble_eq_true rfl) dX7_init_99 (fun q11 H hP hD hS => ?_)
  refine lv_dup hx hb dX7_init_102 rfl ?_
  refine dx_call (As := []) (st := [.ref q11, .ref q11, .int 2, .ref q1]) (rest := [.ref q11, .int 2, .ref q1]) (k1 := 70) (n1 := 1947) (own := RX7) (k_X5 l D d) (Or.inr (hK.2.2 (RX7, 56, yX5_init) (List.mem_of_getElem? (i := 4) rfl))) dx_cw5 dxw_99 dxw_376 rfl ⟨by decide, by decide, dx_na5⟩ ⟨rfl, rfl⟩ ⟨Nat.le_of_ble_eq_true rfl, Nat.le_of_ble_eq_true rfl⟩ hown hx hb hts hml hl.1 hK hP hD hS hA rfl rfl (Nat.le_of_ble_eq_true rfl) (Nat.le_of_ble_eq_true rfl) rfl (Nat.le_of_ble_eq_true rfl) dX7_init_103 (fun u11 H2 locs2 hw hP2 hD2 hS2 => ?_)
  have hw : u11 0 = q11 := hw
  subst hw
  have hP := hP2
  have hD := hD2
  have hS := hS2
  have hP := dx_insP3 hP
  have hD := dx_insD3 hD
  have hP : va_P D vwCl ((h0, .inr (7, [.ref q1, .ref (u2 0), .ref (u3 0), .ref (u4 0), .ref q5, .ref (u6 0), .ref q7, .ref q8, .int 0, .int 0])) :: ((q1, .inl (d 4, 8, .inr (.inr (.inr (.inr (va_up (va_up (fun _ => none) 0 (some (u9 0))) 1 (some (u10 0)))))))) :: ((q5, .inl (d 5, 2, .inr (.inr (.inr (.inr (fun _ => none)))))) :: (wRow d u11 ++ (wRow d u10 ++ (wRow d u9 ++ ((q8, .inl (d 1, 4, .inl (fun _ => 0))) :: ((q7, .inl (d 1, 4, .inl (fun _ => 0))) :: (wAsks d (u3 16) u6 ++ (hsW d u4 ++ (hsW d u3 ++ (wRead d u2 ++ [])))))))))))) _ := hP
  have hD : va_D A ((h0, .inr (7, [.ref q1, .ref (u2 0), .ref (u3 0), .ref (u4 0), .ref q5, .ref (u6 0), .ref q7, .ref q8, .int 0, .int 0])) :: ((q1, .inl (d 4, 8, .inr (.inr (.inr (.inr (va_up (va_up (fun _ => none) 0 (some (u9 0))) 1 (some (u10 0)))))))) :: ((q5, .inl (d 5, 2, .inr (.inr (.inr (.inr (fun _ => none)))))) :: (wRow d u11 ++ (wRow d u10 ++ (wRow d u9 ++ ((q8, .inl (d 1, 4, .inl (fun _ => 0))) :: ((q7, .inl (d 1, 4, .inl (fun _ => 0))) :: (wAsks d (u3 16) u6 ++ (hsW d u4 ++ (hsW d u3 ++ (wRead d u2 ++ [])))))))))))) := hD
  refine va_astq hx hb hK.1 hP hD hS 1 3 3 5 (n := 8) (v := (u11 0)) (vs := [.ref (u11 1), .int 1, .int 0, .int 0]) (r := mx_cl 5) (f := va_up (va_up (fun _ => none) 0 (some (u9 0))) 1 (some (u10 0))) rfl rfl rfl (mx_cl_at (by decide)) (i := 2) (show ¬ ((2 : Int32) < 0 ∨ 8 ≤ (2 : Int32).toNatClampNeg) by decide) dX7_init_106 (fun H locs hP hD hS => ?_)
  have hP : va_P D vwCl ((h0, .inr (7, [.ref q1, .ref (u2 0), .ref (u3 0), .ref (u4 0), .ref q5, .ref (u6 0), .ref q7, .ref q8, .int 0, .int 0])) :: ((q1, .inl (d 4, 8, .inr (.inr (.inr (.inr (va_up (va_up (va_up (fun _ => none) 0 (some (u9 0))) 1 (some (u10 0))) 2 (some (u11 0)))))))) :: ((q5, .inl (d 5, 2, .inr (.inr (.inr (.inr (fun _ => none)))))) :: (wRow d u11 ++ (wRow d u10 ++ (wRow d u9 ++ ((q8, .inl (d 1, 4, .inl (fun _ => 0))) :: ((q7, .inl (d 1, 4, .inl (fun _ => 0))) :: (wAsks d (u3 16) u6 ++ (hsW d u4 ++ (hsW d u3 ++ (wRead d u2 ++ [])))))))))))) _ := hP
  have hD : va_D A ((h0, .inr (7, [.ref q1, .ref (u2 0), .ref (u3 0), .ref (u4 0), .ref q5, .ref (u6 0), .ref q7, .ref q8, .int 0, .int 0])) :: ((q1, .inl (d 4, 8, .inr (.inr (.inr (.inr (va_up (va_up (va_up (fun _ => none) 0 (some (u9 0))) 1 (some (u10 0))) 2 (some (u11 0)))))))) :: ((q5, .inl (d 5, 2, .inr (.inr (.inr (.inr (fun _ => none)))))) :: (wRow d u11 ++ (wRow d u10 ++ (wRow d u9 ++ ((q8, .inl (d 1, 4, .inl (fun _ => 0))) :: ((q7, .inl (d 1, 4, .inl (fun _ => 0))) :: (wAsks d (u3 16) u6 ++ (hsW d u4 ++ (hsW d u3 ++ (wRead d u2 ++ [])))))))))))) := hD
  refine lv_iinc (v := 3) (lv' := [(1, .int 3), (0, .ref h0)]) hx hb dX7_init_107 hl (k := 0) rfl (by decide) (by decide) rfl (fun ls hl => ?_)
  refine lv_goto (tgt := 88) hx hb dX7_init_110 (by decide) ?_
  refine lv_iload_n hx hb dX7_init_88 rfl (lv_at hl 0 rfl) ?_
  refine lv_bipush (v := 8) hx hb dX7_init_89 (by decide) ?_
  refine lv_icmp_ge (tgt := 113) hx hb dX7_init_91 (by decide) (fun z => absurd z (by decide)) (fun _ => ?_)
  refine lv_aload_n hx hb dX7_init_94 rfl (lv_at hl 1 rfl) ?_
  refine dx_get (own := RX7) 7 0 (by decide) (by decide) dxw_396 hown hx hb hts hK hP 0 (fs := [.ref q1, .ref (u2 0), .ref (u3 0), .ref (u4 0), .ref q5, .ref (u6 0), .ref q7, .ref q8, .int 0, .int 0]) rfl (v := .ref q1) rfl dX7_init_95 ?_
  refine lv_iload_n hx hb dX7_init_98 rfl (lv_at hl 0 rfl) ?_
  refine dx_new (own := RX7) (d := d) (k1 := 71) (n1 := 1951) 5 (by decide) (fs := [.null, .int 0, .int 0, .int 0]) dx_df5 dxw_117 dxw_374 dxw_99 hown hx hb hts hK hP hD hS hA rfl rfl (Nat.le_of_ble_eq_true rfl) (Nat.le_of_ble_eq_true rfl) dX7_init_99 (fun q12 H hP hD hS => ?_)
  refine lv_dup hx hb dX7_init_102 rfl ?_
  refine dx_call (As := []) (st := [.ref q12, .ref q12, .int 3, .ref q1]) (rest := [.ref q12, .int 3, .ref q1]) (k1 := 72) (n1 := 1991) (own := RX7) (k_X5 l D d) (Or.inr (hK.2.2 (RX7, 56, yX5_init) (List.mem_of_getElem? (i := 4) rfl))) dx_cw5 dxw_99 dxw_376 rfl ⟨by decide, by decide, dx_na5⟩ ⟨rfl, rfl⟩ ⟨Nat.le_of_ble_eq_true rfl, Nat.le_of_ble_eq_true rfl⟩ hown hx hb hts hml hl.1 hK hP hD hS hA rfl rfl (Nat.le_of_ble_eq_true rfl) (Nat.le_of_ble_eq_true rfl) rfl (Nat.le_of_ble_eq_true rfl) dX7_init_103 (fun u12 H2 locs2 hw hP2 hD2 hS2 => ?_)
  have hw : u12 0 = q12 := hw
  subst hw
  have hP := hP2
  have hD := hD2
  have hS := hS2
  have hP := dx_insP3 hP
  have hD := dx_insD3 hD
  have hP : va_P D vwCl ((h0, .inr (7, [.ref q1, .ref (u2 0), .ref (u3 0), .ref (u4 0), .ref q5, .ref (u6 0), .ref q7, .ref q8, .int 0, .int 0])) :: ((q1, .inl (d 4, 8, .inr (.inr (.inr (.inr (va_up (va_up (va_up (fun _ => none) 0 (some (u9 0))) 1 (some (u10 0))) 2 (some (u11 0)))))))) :: ((q5, .inl (d 5, 2, .inr (.inr (.inr (.inr (fun _ => none)))))) :: (wRow d u12 ++ (wRow d u11 ++ (wRow d u10 ++ (wRow d u9 ++ ((q8, .inl (d 1, 4, .inl (fun _ => 0))) :: ((q7, .inl (d 1, 4, .inl (fun _ => 0))) :: (wAsks d (u3 16) u6 ++ (hsW d u4 ++ (hsW d u3 ++ (wRead d u2 ++ []))))))))))))) _ := hP
  have hD : va_D A ((h0, .inr (7, [.ref q1, .ref (u2 0), .ref (u3 0), .ref (u4 0), .ref q5, .ref (u6 0), .ref q7, .ref q8, .int 0, .int 0])) :: ((q1, .inl (d 4, 8, .inr (.inr (.inr (.inr (va_up (va_up (va_up (fun _ => none) 0 (some (u9 0))) 1 (some (u10 0))) 2 (some (u11 0)))))))) :: ((q5, .inl (d 5, 2, .inr (.inr (.inr (.inr (fun _ => none)))))) :: (wRow d u12 ++ (wRow d u11 ++ (wRow d u10 ++ (wRow d u9 ++ ((q8, .inl (d 1, 4, .inl (fun _ => 0))) :: ((q7, .inl (d 1, 4, .inl (fun _ => 0))) :: (wAsks d (u3 16) u6 ++ (hsW d u4 ++ (hsW d u3 ++ (wRead d u2 ++ []))))))))))))) := hD
  refine va_astq hx hb hK.1 hP hD hS 1 3 3 5 (n := 8) (v := (u12 0)) (vs := [.ref (u12 1), .int 1, .int 0, .int 0]) (r := mx_cl 5) (f := va_up (va_up (va_up (fun _ => none) 0 (some (u9 0))) 1 (some (u10 0))) 2 (some (u11 0))) rfl rfl rfl (mx_cl_at (by decide)) (i := 3) (show ¬ ((3 : Int32) < 0 ∨ 8 ≤ (3 : Int32).toNatClampNeg) by decide) dX7_init_106 (fun H locs hP hD hS => ?_)
  have hP : va_P D vwCl ((h0, .inr (7, [.ref q1, .ref (u2 0), .ref (u3 0), .ref (u4 0), .ref q5, .ref (u6 0), .ref q7, .ref q8, .int 0, .int 0])) :: ((q1, .inl (d 4, 8, .inr (.inr (.inr (.inr (va_up (va_up (va_up (va_up (fun _ => none) 0 (some (u9 0))) 1 (some (u10 0))) 2 (some (u11 0))) 3 (some (u12 0)))))))) :: ((q5, .inl (d 5, 2, .inr (.inr (.inr (.inr (fun _ => none)))))) :: (wRow d u12 ++ (wRow d u11 ++ (wRow d u10 ++ (wRow d u9 ++ ((q8, .inl (d 1, 4, .inl (fun _ => 0))) :: ((q7, .inl (d 1, 4, .inl (fun _ => 0))) :: (wAsks d (u3 16) u6 ++ (hsW d u4 ++ (hsW d u3 ++ (wRead d u2 ++ []))))))))))))) _ := hP
  have hD : va_D A ((h0, .inr (7, [.ref q1, .ref (u2 0), .ref (u3 0), .ref (u4 0), .ref q5, .ref (u6 0), .ref q7, .ref q8, .int 0, .int 0])) :: ((q1, .inl (d 4, 8, .inr (.inr (.inr (.inr (va_up (va_up (va_up (va_up (fun _ => none) 0 (some (u9 0))) 1 (some (u10 0))) 2 (some (u11 0))) 3 (some (u12 0)))))))) :: ((q5, .inl (d 5, 2, .inr (.inr (.inr (.inr (fun _ => none)))))) :: (wRow d u12 ++ (wRow d u11 ++ (wRow d u10 ++ (wRow d u9 ++ ((q8, .inl (d 1, 4, .inl (fun _ => 0))) :: ((q7, .inl (d 1, 4, .inl (fun _ => 0))) :: (wAsks d (u3 16) u6 ++ (hsW d u4 ++ (hsW d u3 ++ (wRead d u2 ++ []))))))))))))) := hD
  refine lv_iinc (v := 4) (lv' := [(1, .int 4), (0, .ref h0)]) hx hb dX7_init_107 hl (k := 0) rfl (by decide) (by decide) rfl (fun ls hl => ?_)
  refine lv_goto (tgt := 88) hx hb dX7_init_110 (by decide) ?_
  refine lv_iload_n hx hb dX7_init_88 rfl (lv_at hl 0 rfl) ?_
  refine lv_bipush (v := 8) hx hb dX7_init_89 (by decide) ?_
  refine lv_icmp_ge (tgt := 113) hx hb dX7_init_91 (by decide) (fun z => absurd z (by decide)) (fun _ => ?_)
  refine lv_aload_n hx hb dX7_init_94 rfl (lv_at hl 1 rfl) ?_
  refine dx_get (own := RX7) 7 0 (by decide) (by decide) dxw_396 hown hx hb hts hK hP 0 (fs := [.ref q1, .ref (u2 0), .ref (u3 0), .ref (u4 0), .ref q5, .ref (u6 0), .ref q7, .ref q8, .int 0, .int 0]) rfl (v := .ref q1) rfl dX7_init_95 ?_
  refine lv_iload_n hx hb dX7_init_98 rfl (lv_at hl 0 rfl) ?_
  refine dx_new (own := RX7) (d := d) (k1 := 73) (n1 := 1995) 5 (by decide) (fs := [.null, .int 0, .int 0, .int 0]) dx_df5 dxw_117 dxw_374 dxw_99 hown hx hb hts hK hP hD hS hA rfl rfl (Nat.le_of_ble_eq_true rfl) (Nat.le_of_ble_eq_true rfl) dX7_init_99 (fun q13 H hP hD hS => ?_)
  refine lv_dup hx hb dX7_init_102 rfl ?_
  refine dx_call (As := []) (st := [.ref q13, .ref q13, .int 4, .ref q1]) (rest := [.ref q13, .int 4, .ref q1]) (k1 := 74) (n1 := 2035) (own := RX7) (k_X5 l D d) (Or.inr (hK.2.2 (RX7, 56, yX5_init) (List.mem_of_getElem? (i := 4) rfl))) dx_cw5 dxw_99 dxw_376 rfl ⟨by decide, by decide, dx_na5⟩ ⟨rfl, rfl⟩ ⟨Nat.le_of_ble_eq_true rfl, Nat.le_of_ble_eq_true rfl⟩ hown hx hb hts hml hl.1 hK hP hD hS hA rfl rfl (Nat.le_of_ble_eq_true rfl) (Nat.le_of_ble_eq_true rfl) rfl (Nat.le_of_ble_eq_true rfl) dX7_init_103 (fun u13 H2 locs2 hw hP2 hD2 hS2 => ?_)
  have hw : u13 0 = q13 := hw
  subst hw
  have hP := hP2
  have hD := hD2
  have hS := hS2
  have hP := dx_insP3 hP
  have hD := dx_insD3 hD
  have hP : va_P D vwCl ((h0, .inr (7, [.ref q1, .ref (u2 0), .ref (u3 0), .ref (u4 0), .ref q5, .ref (u6 0), .ref q7, .ref q8, .int 0, .int 0])) :: ((q1, .inl (d 4, 8, .inr (.inr (.inr (.inr (va_up (va_up (va_up (va_up (fun _ => none) 0 (some (u9 0))) 1 (some (u10 0))) 2 (some (u11 0))) 3 (some (u12 0)))))))) :: ((q5, .inl (d 5, 2, .inr (.inr (.inr (.inr (fun _ => none)))))) :: (wRow d u13 ++ (wRow d u12 ++ (wRow d u11 ++ (wRow d u10 ++ (wRow d u9 ++ ((q8, .inl (d 1, 4, .inl (fun _ => 0))) :: ((q7, .inl (d 1, 4, .inl (fun _ => 0))) :: (wAsks d (u3 16) u6 ++ (hsW d u4 ++ (hsW d u3 ++ (wRead d u2 ++ [])))))))))))))) _ := hP
  have hD : va_D A ((h0, .inr (7, [.ref q1, .ref (u2 0), .ref (u3 0), .ref (u4 0), .ref q5, .ref (u6 0), .ref q7, .ref q8, .int 0, .int 0])) :: ((q1, .inl (d 4, 8, .inr (.inr (.inr (.inr (va_up (va_up (va_up (va_up (fun _ => none) 0 (some (u9 0))) 1 (some (u10 0))) 2 (some (u11 0))) 3 (some (u12 0)))))))) :: ((q5, .inl (d 5, 2, .inr (.inr (.inr (.inr (fun _ => none)))))) :: (wRow d u13 ++ (wRow d u12 ++ (wRow d u11 ++ (wRow d u10 ++ (wRow d u9 ++ ((q8, .inl (d 1, 4, .inl (fun _ => 0))) :: ((q7, .inl (d 1, 4, .inl (fun _ => 0))) :: (wAsks d (u3 16) u6 ++ (hsW d u4 ++ (hsW d u3 ++ (wRead d u2 ++ [])))))))))))))) := hD
  refine va_astq hx hb hK.1 hP hD hS 1 3 3 5 (n := 8) (v := (u13 0)) (vs := [.ref (u13 1), .int 1, .int 0, .int 0]) (r := mx_cl 5) (f := va_up (va_up (va_up (va_up (fun _ => none) 0 (some (u9 0))) 1 (some (u10 0))) 2 (some (u11 0))) 3 (some (u12 0))) rfl rfl rfl (mx_cl_at (by decide)) (i := 4) (show ¬ ((4 : Int32) < 0 ∨ 8 ≤ (4 : Int32).toNatClampNeg) by decide) dX7_init_106 (fun H locs hP hD hS => ?_)
  have hP : va_P D vwCl ((h0, .inr (7, [.ref q1, .ref (u2 0), .ref (u3 0), .ref (u4 0), .ref q5, .ref (u6 0), .ref q7, .ref q8, .int 0, .int 0])) :: ((q1, .inl (d 4, 8, .inr (.inr (.inr (.inr (va_up (va_up (va_up (va_up (va_up (fun _ => none) 0 (some (u9 0))) 1 (some (u10 0))) 2 (some (u11 0))) 3 (some (u12 0))) 4 (some (u13 0)))))))) :: ((q5, .inl (d 5, 2, .inr (.inr (.inr (.inr (fun _ => none)))))) :: (wRow d u13 ++ (wRow d u12 ++ (wRow d u11 ++ (wRow d u10 ++ (wRow d u9 ++ ((q8, .inl (d 1, 4, .inl (fun _ => 0))) :: ((q7, .inl (d 1, 4, .inl (fun _ => 0))) :: (wAsks d (u3 16) u6 ++ (hsW d u4 ++ (hsW d u3 ++ (wRead d u2 ++ [])))))))))))))) _ := hP
  have hD : va_D A ((h0, .inr (7, [.ref q1, .ref (u2 0), .ref (u3 0), .ref (u4 0), .ref q5, .ref (u6 0), .ref q7, .ref q8, .int 0, .int 0])) :: ((q1, .inl (d 4, 8, .inr (.inr (.inr (.inr (va_up (va_up (va_up (va_up (va_up (fun _ => none) 0 (some (u9 0))) 1 (some (u10 0))) 2 (some (u11 0))) 3 (some (u12 0))) 4 (some (u13 0)))))))) :: ((q5, .inl (d 5, 2, .inr (.inr (.inr (.inr (fun _ => none)))))) :: (wRow d u13 ++ (wRow d u12 ++ (wRow d u11 ++ (wRow d u10 ++ (wRow d u9 ++ ((q8, .inl (d 1, 4, .inl (fun _ => 0))) :: ((q7, .inl (d 1, 4, .inl (fun _ => 0))) :: (wAsks d (u3 16) u6 ++ (hsW d u4 ++ (hsW d u3 ++ (wRead d u2 ++ [])))))))))))))) := hD
  refine lv_iinc (v := 5) (lv' := [(1, .int 5), (0, .ref h0)]) hx hb dX7_init_107 hl (k := 0) rfl (by decide) (by decide) rfl (fun ls hl => ?_)
  refine lv_goto (tgt := 88) hx hb dX7_init_110 (by decide) ?_
  refine lv_iload_n hx hb dX7_init_88 rfl (lv_at hl 0 rfl) ?_
  refine lv_bipush (v := 8) hx hb dX7_init_89 (by decide) ?_
  refine lv_icmp_ge (tgt := 113) hx hb dX7_init_91 (by decide) (fun z => absurd z (by decide)) (fun _ => ?_)
  refine lv_aload_n hx hb dX7_init_94 rfl (lv_at hl 1 rfl) ?_
  refine dx_get (own := RX7) 7 0 (by decide) (by decide) dxw_396 hown hx hb hts hK hP 0 (fs := [.ref q1, .ref (u2 0), .ref (u3 0), .ref (u4 0), .ref q5, .ref (u6 0), .ref q7, .ref q8, .int 0, .int 0]) rfl (v := .ref q1) rfl dX7_init_95 ?_
  refine lv_iload_n hx hb dX7_init_98 rfl (lv_at hl 0 rfl) ?_
  refine dx_new (own := RX7) (d := d) (k1 := 75) (n1 := 2039) 5 (by decide) (fs := [.null, .int 0, .int 0, .int 0]) dx_df5 dxw_117 dxw_374 dxw_99 hown hx hb hts hK hP hD hS hA rfl rfl (Nat.le_of_ble_eq_true rfl) (Nat.le_of_ble_eq_true rfl) dX7_init_99 (fun q14 H hP hD hS => ?_)
  refine lv_dup hx hb dX7_init_102 rfl ?_
  refine dx_call (As := []) (st := [.ref q14, .ref q14, .int 5, .ref q1]) (rest := [.ref q14, .int 5, .ref q1]) (k1 := 76) (n1 := 2079) (own := RX7) (k_X5 l D d) (Or.inr (hK.2.2 (RX7, 56, yX5_init) (List.mem_of_getElem? (i := 4) rfl))) dx_cw5 dxw_99 dxw_376 rfl ⟨by decide, by decide, dx_na5⟩ ⟨rfl, rfl⟩ ⟨Nat.le_of_ble_eq_true rfl, Nat.le_of_ble_eq_true rfl⟩ hown hx hb hts hml hl.1 hK hP hD hS hA rfl rfl (Nat.le_of_ble_eq_true rfl) (Nat.le_of_ble_eq_true rfl) rfl (Nat.le_of_ble_eq_true rfl) dX7_init_103 (fun u14 H2 locs2 hw hP2 hD2 hS2 => ?_)
  have hw : u14 0 = q14 := hw
  subst hw
  have hP := hP2
  have hD := hD2
  have hS := hS2
  have hP := dx_insP3 hP
  have hD := dx_insD3 hD
  have hP : va_P D vwCl ((h0, .inr (7, [.ref q1, .ref (u2 0), .ref (u3 0), .ref (u4 0), .ref q5, .ref (u6 0), .ref q7, .ref q8, .int 0, .int 0])) :: ((q1, .inl (d 4, 8, .inr (.inr (.inr (.inr (va_up (va_up (va_up (va_up (va_up (fun _ => none) 0 (some (u9 0))) 1 (some (u10 0))) 2 (some (u11 0))) 3 (some (u12 0))) 4 (some (u13 0)))))))) :: ((q5, .inl (d 5, 2, .inr (.inr (.inr (.inr (fun _ => none)))))) :: (wRow d u14 ++ (wRow d u13 ++ (wRow d u12 ++ (wRow d u11 ++ (wRow d u10 ++ (wRow d u9 ++ ((q8, .inl (d 1, 4, .inl (fun _ => 0))) :: ((q7, .inl (d 1, 4, .inl (fun _ => 0))) :: (wAsks d (u3 16) u6 ++ (hsW d u4 ++ (hsW d u3 ++ (wRead d u2 ++ []))))))))))))))) _ := hP
  have hD : va_D A ((h0, .inr (7, [.ref q1, .ref (u2 0), .ref (u3 0), .ref (u4 0), .ref q5, .ref (u6 0), .ref q7, .ref q8, .int 0, .int 0])) :: ((q1, .inl (d 4, 8, .inr (.inr (.inr (.inr (va_up (va_up (va_up (va_up (va_up (fun _ => none) 0 (some (u9 0))) 1 (some (u10 0))) 2 (some (u11 0))) 3 (some (u12 0))) 4 (some (u13 0)))))))) :: ((q5, .inl (d 5, 2, .inr (.inr (.inr (.inr (fun _ => none)))))) :: (wRow d u14 ++ (wRow d u13 ++ (wRow d u12 ++ (wRow d u11 ++ (wRow d u10 ++ (wRow d u9 ++ ((q8, .inl (d 1, 4, .inl (fun _ => 0))) :: ((q7, .inl (d 1, 4, .inl (fun _ => 0))) :: (wAsks d (u3 16) u6 ++ (hsW d u4 ++ (hsW d u3 ++ (wRead d u2 ++ []))))))))))))))) := hD
  refine va_astq hx hb hK.1 hP hD hS 1 3 3 5 (n := 8) (v := (u14 0)) (vs := [.ref (u14 1), .int 1, .int 0, .int 0]) (r := mx_cl 5) (f := va_up (va_up (va_up (va_up (va_up (fun _ => none) 0 (some (u9 0))) 1 (some (u10 0))) 2 (some (u11 0))) 3 (some (u12 0))) 4 (some (u13 0))) rfl rfl rfl (mx_cl_at (by decide)) (i := 5) (show ¬ ((5 : Int32) < 0 ∨ 8 ≤ (5 : Int32).toNatClampNeg) by decide) dX7_init_106 (fun H locs hP hD hS => ?_)
  have hP : va_P D vwCl ((h0, .inr (7, [.ref q1, .ref (u2 0), .ref (u3 0), .ref (u4 0), .ref q5, .ref (u6 0), .ref q7, .ref q8, .int 0, .int 0])) :: ((q1, .inl (d 4, 8, .inr (.inr (.inr (.inr (va_up (va_up (va_up (va_up (va_up (va_up (fun _ => none) 0 (some (u9 0))) 1 (some (u10 0))) 2 (some (u11 0))) 3 (some (u12 0))) 4 (some (u13 0))) 5 (some (u14 0)))))))) :: ((q5, .inl (d 5, 2, .inr (.inr (.inr (.inr (fun _ => none)))))) :: (wRow d u14 ++ (wRow d u13 ++ (wRow d u12 ++ (wRow d u11 ++ (wRow d u10 ++ (wRow d u9 ++ ((q8, .inl (d 1, 4, .inl (fun _ => 0))) :: ((q7, .inl (d 1, 4, .inl (fun _ => 0))) :: (wAsks d (u3 16) u6 ++ (hsW d u4 ++ (hsW d u3 ++ (wRead d u2 ++ []))))))))))))))) _ := hP
  have hD : va_D A ((h0, .inr (7, [.ref q1, .ref (u2 0), .ref (u3 0), .ref (u4 0), .ref q5, .ref (u6 0), .ref q7, .ref q8, .int 0, .int 0])) :: ((q1, .inl (d 4, 8, .inr (.inr (.inr (.inr (va_up (va_up (va_up (va_up (va_up (va_up (fun _ => none) 0 (some (u9 0))) 1 (some (u10 0))) 2 (some (u11 0))) 3 (some (u12 0))) 4 (some (u13 0))) 5 (some (u14 0)))))))) :: ((q5, .inl (d 5, 2, .inr (.inr (.inr (.inr (fun _ => none)))))) :: (wRow d u14 ++ (wRow d u13 ++ (wRow d u12 ++ (wRow d u11 ++ (wRow d u10 ++ (wRow d u9 ++ ((q8, .inl (d 1, 4, .inl (fun _ => 0))) :: ((q7, .inl (d 1, 4, .inl (fun _ => 0))) :: (wAsks d (u3 16) u6 ++ (hsW d u4 ++ (hsW d u3 ++ (wRead d u2 ++ []))))))))))))))) := hD
  refine lv_iinc (v := 6) (lv' := [(1, .int 6), (0, .ref h0)]) hx hb dX7_init_107 hl (k := 0) rfl (by decide) (by decide) rfl (fun ls hl => ?_)
  refine lv_goto (tgt := 88) hx hb dX7_init_110 (by decide) ?_
  refine lv_iload_n hx hb dX7_init_88 rfl (lv_at hl 0 rfl) ?_
  refine lv_bipush (v := 8) hx hb dX7_init_89 (by decide) ?_
  refine lv_icmp_ge (tgt := 113) hx hb dX7_init_91 (by decide) (fun z => absurd z (by decide)) (fun _ => ?_)
  refine lv_aload_n hx hb dX7_init_94 rfl (lv_at hl 1 rfl) ?_
  refine dx_get (own := RX7) 7 0 (by decide) (by decide) dxw_396 hown hx hb hts hK hP 0 (fs := [.ref q1, .ref (u2 0), .ref (u3 0), .ref (u4 0), .ref q5, .ref (u6 0), .ref q7, .ref q8, .int 0, .int 0]) rfl (v := .ref q1) rfl dX7_init_95 ?_
  refine lv_iload_n hx hb dX7_init_98 rfl (lv_at hl 0 rfl) ?_
  refine dx_new (own := RX7) (d := d) (k1 := 77) (n1 := 2083) 5 (by decide) (fs := [.null, .int 0, .int 0, .int 0]) dx_df5 dxw_117 dxw_374 dxw_99 hown hx hb hts hK hP hD hS hA rfl rfl (Nat.le_of_ble_eq_true rfl) (Nat.le_of_ble_eq_true rfl) dX7_init_99 (fun q15 H hP hD hS => ?_)
  refine lv_dup hx hb dX7_init_102 rfl ?_
  refine dx_call (As := []) (st := [.ref q15, .ref q15, .int 6, .ref q1]) (rest := [.ref q15, .int 6, .ref q1]) (k1 := 78) (n1 := 2123) (own := RX7) (k_X5 l D d) (Or.inr (hK.2.2 (RX7, 56, yX5_init) (List.mem_of_getElem? (i := 4) rfl))) dx_cw5 dxw_99 dxw_376 rfl ⟨by decide, by decide, dx_na5⟩ ⟨rfl, rfl⟩ ⟨Nat.le_of_ble_eq_true rfl, Nat.le_of_ble_eq_true rfl⟩ hown hx hb hts hml hl.1 hK hP hD hS hA rfl rfl (Nat.le_of_ble_eq_true rfl) (Nat.le_of_ble_eq_true rfl) rfl (Nat.le_of_ble_eq_true rfl) dX7_init_103 (fun u15 H2 locs2 hw hP2 hD2 hS2 => ?_)
  have hw : u15 0 = q15 := hw
  subst hw
  have hP := hP2
  have hD := hD2
  have hS := hS2
  have hP := dx_insP3 hP
  have hD := dx_insD3 hD
  have hP : va_P D vwCl ((h0, .inr (7, [.ref q1, .ref (u2 0), .ref (u3 0), .ref (u4 0), .ref q5, .ref (u6 0), .ref q7, .ref q8, .int 0, .int 0])) :: ((q1, .inl (d 4, 8, .inr (.inr (.inr (.inr (va_up (va_up (va_up (va_up (va_up (va_up (fun _ => none) 0 (some (u9 0))) 1 (some (u10 0))) 2 (some (u11 0))) 3 (some (u12 0))) 4 (some (u13 0))) 5 (some (u14 0)))))))) :: ((q5, .inl (d 5, 2, .inr (.inr (.inr (.inr (fun _ => none)))))) :: (wRow d u15 ++ (wRow d u14 ++ (wRow d u13 ++ (wRow d u12 ++ (wRow d u11 ++ (wRow d u10 ++ (wRow d u9 ++ ((q8, .inl (d 1, 4, .inl (fun _ => 0))) :: ((q7, .inl (d 1, 4, .inl (fun _ => 0))) :: (wAsks d (u3 16) u6 ++ (hsW d u4 ++ (hsW d u3 ++ (wRead d u2 ++ [])))))))))))))))) _ := hP
  have hD : va_D A ((h0, .inr (7, [.ref q1, .ref (u2 0), .ref (u3 0), .ref (u4 0), .ref q5, .ref (u6 0), .ref q7, .ref q8, .int 0, .int 0])) :: ((q1, .inl (d 4, 8, .inr (.inr (.inr (.inr (va_up (va_up (va_up (va_up (va_up (va_up (fun _ => none) 0 (some (u9 0))) 1 (some (u10 0))) 2 (some (u11 0))) 3 (some (u12 0))) 4 (some (u13 0))) 5 (some (u14 0)))))))) :: ((q5, .inl (d 5, 2, .inr (.inr (.inr (.inr (fun _ => none)))))) :: (wRow d u15 ++ (wRow d u14 ++ (wRow d u13 ++ (wRow d u12 ++ (wRow d u11 ++ (wRow d u10 ++ (wRow d u9 ++ ((q8, .inl (d 1, 4, .inl (fun _ => 0))) :: ((q7, .inl (d 1, 4, .inl (fun _ => 0))) :: (wAsks d (u3 16) u6 ++ (hsW d u4 ++ (hsW d u3 ++ (wRead d u2 ++ [])))))))))))))))) := hD
  refine va_astq hx hb hK.1 hP hD hS 1 3 3 5 (n := 8) (v := (u15 0)) (vs := [.ref (u15 1), .int 1, .int 0, .int 0]) (r := mx_cl 5) (f := va_up (va_up (va_up (va_up (va_up (va_up (fun _ => none) 0 (some (u9 0))) 1 (some (u10 0))) 2 (some (u11 0))) 3 (some (u12 0))) 4 (some (u13 0))) 5 (some (u14 0))) rfl rfl rfl (mx_cl_at (by decide)) (i := 6) (show ¬ ((6 : Int32) < 0 ∨ 8 ≤ (6 : Int32).toNatClampNeg) by decide) dX7_init_106 (fun H locs hP hD hS => ?_)
  have hP : va_P D vwCl ((h0, .inr (7, [.ref q1, .ref (u2 0), .ref (u3 0), .ref (u4 0), .ref q5, .ref (u6 0), .ref q7, .ref q8, .int 0, .int 0])) :: ((q1, .inl (d 4, 8, .inr (.inr (.inr (.inr (va_up (va_up (va_up (va_up (va_up (va_up (va_up (fun _ => none) 0 (some (u9 0))) 1 (some (u10 0))) 2 (some (u11 0))) 3 (some (u12 0))) 4 (some (u13 0))) 5 (some (u14 0))) 6 (some (u15 0)))))))) :: ((q5, .inl (d 5, 2, .inr (.inr (.inr (.inr (fun _ => none)))))) :: (wRow d u15 ++ (wRow d u14 ++ (wRow d u13 ++ (wRow d u12 ++ (wRow d u11 ++ (wRow d u10 ++ (wRow d u9 ++ ((q8, .inl (d 1, 4, .inl (fun _ => 0))) :: ((q7, .inl (d 1, 4, .inl (fun _ => 0))) :: (wAsks d (u3 16) u6 ++ (hsW d u4 ++ (hsW d u3 ++ (wRead d u2 ++ [])))))))))))))))) _ := hP
  have hD : va_D A ((h0, .inr (7, [.ref q1, .ref (u2 0), .ref (u3 0), .ref (u4 0), .ref q5, .ref (u6 0), .ref q7, .ref q8, .int 0, .int 0])) :: ((q1, .inl (d 4, 8, .inr (.inr (.inr (.inr (va_up (va_up (va_up (va_up (va_up (va_up (va_up (fun _ => none) 0 (some (u9 0))) 1 (some (u10 0))) 2 (some (u11 0))) 3 (some (u12 0))) 4 (some (u13 0))) 5 (some (u14 0))) 6 (some (u15 0)))))))) :: ((q5, .inl (d 5, 2, .inr (.inr (.inr (.inr (fun _ => none)))))) :: (wRow d u15 ++ (wRow d u14 ++ (wRow d u13 ++ (wRow d u12 ++ (wRow d u11 ++ (wRow d u10 ++ (wRow d u9 ++ ((q8, .inl (d 1, 4, .inl (fun _ => 0))) :: ((q7, .inl (d 1, 4, .inl (fun _ => 0))) :: (wAsks d (u3 16) u6 ++ (hsW d u4 ++ (hsW d u3 ++ (wRead d u2 ++ [])))))))))))))))) := hD
  refine lv_iinc (v := 7) (lv' := [(1, .int 7), (0, .ref h0)]) hx hb dX7_init_107 hl (k := 0) rfl (by decide) (by decide) rfl (fun ls hl => ?_)
  refine lv_goto (tgt := 88) hx hb dX7_init_110 (by decide) ?_
  refine lv_iload_n hx hb dX7_init_88 rfl (lv_at hl 0 rfl) ?_
  refine lv_bipush (v := 8) hx hb dX7_init_89 (by decide) ?_
  refine lv_icmp_ge (tgt := 113) hx hb dX7_init_91 (by decide) (fun z => absurd z (by decide)) (fun _ => ?_)
  refine lv_aload_n hx hb dX7_init_94 rfl (lv_at hl 1 rfl) ?_
  refine dx_get (own := RX7) 7 0 (by decide) (by decide) dxw_396 hown hx hb hts hK hP 0 (fs := [.ref q1, .ref (u2 0), .ref (u3 0), .ref (u4 0), .ref q5, .ref (u6 0), .ref q7, .ref q8, .int 0, .int 0]) rfl (v := .ref q1) rfl dX7_init_95 ?_
  refine lv_iload_n hx hb dX7_init_98 rfl (lv_at hl 0 rfl) ?_
  refine dx_new (own := RX7) (d := d) (k1 := 79) (n1 := 2127) 5 (by decide) (fs := [.null, .int 0, .int 0, .int 0]) dx_df5 dxw_117 dxw_374 dxw_99 hown hx hb hts hK hP hD hS hA rfl rfl (Nat.le_of_ble_eq_true rfl) (Nat.le_of_ble_eq_true rfl) dX7_init_99 (fun q16 H hP hD hS => ?_)
  refine lv_dup hx hb dX7_init_102 rfl ?_
  refine dx_call (As := []) (st := [.ref q16, .ref q16, .int 7, .ref q1]) (rest := [.ref q16, .int 7, .ref q1]) (k1 := 80) (n1 := 2167) (own := RX7) (k_X5 l D d) (Or.inr (hK.2.2 (RX7, 56, yX5_init) (List.mem_of_getElem? (i := 4) rfl))) dx_cw5 dxw_99 dxw_376 rfl ⟨by decide, by decide, dx_na5⟩ ⟨rfl, rfl⟩ ⟨Nat.le_of_ble_eq_true rfl, Nat.le_of_ble_eq_true rfl⟩ hown hx hb hts hml hl.1 hK hP hD hS hA rfl rfl (Nat.le_of_ble_eq_true rfl) (Nat.le_of_ble_eq_true rfl) rfl (Nat.le_of_ble_eq_true rfl) dX7_init_103 (fun u16 H2 locs2 hw hP2 hD2 hS2 => ?_)
  have hw : u16 0 = q16 := hw
  subst hw
  have hP := hP2
  have hD := hD2
  have hS := hS2
  have hP := dx_insP3 hP
  have hD := dx_insD3 hD
  have hP : va_P D vwCl ((h0, .inr (7, [.ref q1, .ref (u2 0), .ref (u3 0), .ref (u4 0), .ref q5, .ref (u6 0), .ref q7, .ref q8, .int 0, .int 0])) :: ((q1, .inl (d 4, 8, .inr (.inr (.inr (.inr (va_up (va_up (va_up (va_up (va_up (va_up (va_up (fun _ => none) 0 (some (u9 0))) 1 (some (u10 0))) 2 (some (u11 0))) 3 (some (u12 0))) 4 (some (u13 0))) 5 (some (u14 0))) 6 (some (u15 0)))))))) :: ((q5, .inl (d 5, 2, .inr (.inr (.inr (.inr (fun _ => none)))))) :: (wRow d u16 ++ (wRow d u15 ++ (wRow d u14 ++ (wRow d u13 ++ (wRow d u12 ++ (wRow d u11 ++ (wRow d u10 ++ (wRow d u9 ++ ((q8, .inl (d 1, 4, .inl (fun _ => 0))) :: ((q7, .inl (d 1, 4, .inl (fun _ => 0))) :: (wAsks d (u3 16) u6 ++ (hsW d u4 ++ (hsW d u3 ++ (wRead d u2 ++ []))))))))))))))))) _ := hP
  have hD : va_D A ((h0, .inr (7, [.ref q1, .ref (u2 0), .ref (u3 0), .ref (u4 0), .ref q5, .ref (u6 0), .ref q7, .ref q8, .int 0, .int 0])) :: ((q1, .inl (d 4, 8, .inr (.inr (.inr (.inr (va_up (va_up (va_up (va_up (va_up (va_up (va_up (fun _ => none) 0 (some (u9 0))) 1 (some (u10 0))) 2 (some (u11 0))) 3 (some (u12 0))) 4 (some (u13 0))) 5 (some (u14 0))) 6 (some (u15 0)))))))) :: ((q5, .inl (d 5, 2, .inr (.inr (.inr (.inr (fun _ => none)))))) :: (wRow d u16 ++ (wRow d u15 ++ (wRow d u14 ++ (wRow d u13 ++ (wRow d u12 ++ (wRow d u11 ++ (wRow d u10 ++ (wRow d u9 ++ ((q8, .inl (d 1, 4, .inl (fun _ => 0))) :: ((q7, .inl (d 1, 4, .inl (fun _ => 0))) :: (wAsks d (u3 16) u6 ++ (hsW d u4 ++ (hsW d u3 ++ (wRead d u2 ++ []))))))))))))))))) := hD
  refine va_astq hx hb hK.1 hP hD hS 1 3 3 5 (n := 8) (v := (u16 0)) (vs := [.ref (u16 1), .int 1, .int 0, .int 0]) (r := mx_cl 5) (f := va_up (va_up (va_up (va_up (va_up (va_up (va_up (fun _ => none) 0 (some (u9 0))) 1 (some (u10 0))) 2 (some (u11 0))) 3 (some (u12 0))) 4 (some (u13 0))) 5 (some (u14 0))) 6 (some (u15 0))) rfl rfl rfl (mx_cl_at (by decide)) (i := 7) (show ¬ ((7 : Int32) < 0 ∨ 8 ≤ (7 : Int32).toNatClampNeg) by decide) dX7_init_106 (fun H locs hP hD hS => ?_)
  have hP : va_P D vwCl ((h0, .inr (7, [.ref q1, .ref (u2 0), .ref (u3 0), .ref (u4 0), .ref q5, .ref (u6 0), .ref q7, .ref q8, .int 0, .int 0])) :: ((q1, .inl (d 4, 8, .inr (.inr (.inr (.inr (va_up (va_up (va_up (va_up (va_up (va_up (va_up (va_up (fun _ => none) 0 (some (u9 0))) 1 (some (u10 0))) 2 (some (u11 0))) 3 (some (u12 0))) 4 (some (u13 0))) 5 (some (u14 0))) 6 (some (u15 0))) 7 (some (u16 0)))))))) :: ((q5, .inl (d 5, 2, .inr (.inr (.inr (.inr (fun _ => none)))))) :: (wRow d u16 ++ (wRow d u15 ++ (wRow d u14 ++ (wRow d u13 ++ (wRow d u12 ++ (wRow d u11 ++ (wRow d u10 ++ (wRow d u9 ++ ((q8, .inl (d 1, 4, .inl (fun _ => 0))) :: ((q7, .inl (d 1, 4, .inl (fun _ => 0))) :: (wAsks d (u3 16) u6 ++ (hsW d u4 ++ (hsW d u3 ++ (wRead d u2 ++ []))))))))))))))))) _ := hP
  have hD : va_D A ((h0, .inr (7, [.ref q1, .ref (u2 0), .ref (u3 0), .ref (u4 0), .ref q5, .ref (u6 0), .ref q7, .ref q8, .int 0, .int 0])) :: ((q1, .inl (d 4, 8, .inr (.inr (.inr (.inr (va_up (va_up (va_up (va_up (va_up (va_up (va_up (va_up (fun _ => none) 0 (some (u9 0))) 1 (some (u10 0))) 2 (some (u11 0))) 3 (some (u12 0))) 4 (some (u13 0))) 5 (some (u14 0))) 6 (some (u15 0))) 7 (some (u16 0)))))))) :: ((q5, .inl (d 5, 2, .inr (.inr (.inr (.inr (fun _ => none)))))) :: (wRow d u16 ++ (wRow d u15 ++ (wRow d u14 ++ (wRow d u13 ++ (wRow d u12 ++ (wRow d u11 ++ (wRow d u10 ++ (wRow d u9 ++ ((q8, .inl (d 1, 4, .inl (fun _ => 0))) :: ((q7, .inl (d 1, 4, .inl (fun _ => 0))) :: (wAsks d (u3 16) u6 ++ (hsW d u4 ++ (hsW d u3 ++ (wRead d u2 ++ []))))))))))))))))) := hD
  refine lv_iinc (v := 8) (lv' := [(1, .int 8), (0, .ref h0)]) hx hb dX7_init_107 hl (k := 0) rfl (by decide) (by decide) rfl (fun ls hl => ?_)
  refine lv_goto (tgt := 88) hx hb dX7_init_110 (by decide) ?_
  refine lv_iload_n hx hb dX7_init_88 rfl (lv_at hl 0 rfl) ?_
  refine lv_bipush (v := 8) hx hb dX7_init_89 (by decide) ?_
  refine lv_icmp_ge (tgt := 113) hx hb dX7_init_91 (by decide) (fun _ => ?_) (fun z => absurd (by decide) z)
  refine lv_iconst (v := 0) hx hb dX7_init_113 (by decide) ?_
  refine lv_istore_n (lv' := [(1, .int 0), (0, .ref h0)]) hx hb dX7_init_114 rfl hl (by decide) rfl (fun ls hl => ?_)
  refine lv_iload_n hx hb dX7_init_115 rfl (lv_at hl 0 rfl) ?_
  refine lv_iconst (v := 2) hx hb dX7_init_116 (by decide) ?_
  refine lv_icmp_ge (tgt := 139) hx hb dX7_init_117 (by decide) (fun z => absurd z (by decide)) (fun _ => ?_)
  refine lv_aload_n hx hb dX7_init_120 rfl (lv_at hl 1 rfl) ?_
  refine dx_get (own := RX7) 7 4 (by decide) (by decide) dxw_400 hown hx hb hts hK hP 0 (fs := [.ref q1, .ref (u2 0), .ref (u3 0), .ref (u4 0), .ref q5, .ref (u6 0), .ref q7, .ref q8, .int 0, .int 0]) rfl (v := .ref q5) rfl dX7_init_121 ?_
  refine lv_iload_n hx hb dX7_init_124 rfl (lv_at hl 0 rfl) ?_
  refine dx_new (own := RX7) (d := d) (k1 := 81) (n1 := 2170) 2 (by decide) (fs := [.null, .null, .null]) dx_df2 dxw_154 dxw_155 dxw_94 hown hx hb hts hK hP hD hS hA rfl rfl (Nat.le_of_ble_eq_true rfl) (Nat.le_of_ble_eq_true rfl) dX7_init_125 (fun q17 H hP hD hS => ?_)
  refine lv_dup hx hb dX7_init_128 rfl ?_
  refine dx_call (As := []) (st := [.ref q17, .ref q17, .int 0, .ref q5]) (rest := [.ref q17, .int 0, .ref q5]) (k1 := 108) (n1 := 2852) (own := RX7) (k_X2 l D d) (Or.inr (hK.2.2 (RX7, 24, yX2_init) (List.mem_of_getElem? (i := 1) rfl))) dx_cw2 dxw_94 dxw_157 rfl ⟨by decide, by decide, dx_na2⟩ ⟨rfl, rfl⟩ ⟨Nat.le_of_ble_eq_true rfl, Nat.le_of_ble_eq_true rfl⟩ hown hx hb hts hml hl.1 hK hP hD hS hA rfl rfl (Nat.le_of_ble_eq_true rfl) (Nat.le_of_ble_eq_true rfl) rfl (Nat.le_of_ble_eq_true rfl) dX7_init_129 (fun u17 H2 locs2 hw hP2 hD2 hS2 => ?_)
  have hw : u17 0 = q17 := hw
  subst hw
  have hP := hP2
  have hD := hD2
  have hS := hS2
  have hP := dx_insP3 hP
  have hD := dx_insD3 hD
  have hP : va_P D vwCl ((h0, .inr (7, [.ref q1, .ref (u2 0), .ref (u3 0), .ref (u4 0), .ref q5, .ref (u6 0), .ref q7, .ref q8, .int 0, .int 0])) :: ((q1, .inl (d 4, 8, .inr (.inr (.inr (.inr (va_up (va_up (va_up (va_up (va_up (va_up (va_up (va_up (fun _ => none) 0 (some (u9 0))) 1 (some (u10 0))) 2 (some (u11 0))) 3 (some (u12 0))) 4 (some (u13 0))) 5 (some (u14 0))) 6 (some (u15 0))) 7 (some (u16 0)))))))) :: ((q5, .inl (d 5, 2, .inr (.inr (.inr (.inr (fun _ => none)))))) :: (hsW d u17 ++ (wRow d u16 ++ (wRow d u15 ++ (wRow d u14 ++ (wRow d u13 ++ (wRow d u12 ++ (wRow d u11 ++ (wRow d u10 ++ (wRow d u9 ++ ((q8, .inl (d 1, 4, .inl (fun _ => 0))) :: ((q7, .inl (d 1, 4, .inl (fun _ => 0))) :: (wAsks d (u3 16) u6 ++ (hsW d u4 ++ (hsW d u3 ++ (wRead d u2 ++ [])))))))))))))))))) _ := hP
  have hD : va_D A ((h0, .inr (7, [.ref q1, .ref (u2 0), .ref (u3 0), .ref (u4 0), .ref q5, .ref (u6 0), .ref q7, .ref q8, .int 0, .int 0])) :: ((q1, .inl (d 4, 8, .inr (.inr (.inr (.inr (va_up (va_up (va_up (va_up (va_up (va_up (va_up (va_up (fun _ => none) 0 (some (u9 0))) 1 (some (u10 0))) 2 (some (u11 0))) 3 (some (u12 0))) 4 (some (u13 0))) 5 (some (u14 0))) 6 (some (u15 0))) 7 (some (u16 0)))))))) :: ((q5, .inl (d 5, 2, .inr (.inr (.inr (.inr (fun _ => none)))))) :: (hsW d u17 ++ (wRow d u16 ++ (wRow d u15 ++ (wRow d u14 ++ (wRow d u13 ++ (wRow d u12 ++ (wRow d u11 ++ (wRow d u10 ++ (wRow d u9 ++ ((q8, .inl (d 1, 4, .inl (fun _ => 0))) :: ((q7, .inl (d 1, 4, .inl (fun _ => 0))) :: (wAsks d (u3 16) u6 ++ (hsW d u4 ++ (hsW d u3 ++ (wRead d u2 ++ [])))))))))))))))))) := hD
  refine va_astq hx hb hK.1 hP hD hS 2 4 3 2 (n := 2) (v := (u17 0)) (vs := [.ref (u17 1), .ref (u17 13), .ref (u17 16)]) (r := mx_cl 2) (f := fun _ => none) rfl rfl rfl (mx_cl_at (by decide)) (i := 0) (show ¬ ((0 : Int32) < 0 ∨ 2 ≤ (0 : Int32).toNatClampNeg) by decide) dX7_init_132 (fun H locs hP hD hS => ?_)
  have hP : va_P D vwCl ((h0, .inr (7, [.ref q1, .ref (u2 0), .ref (u3 0), .ref (u4 0), .ref q5, .ref (u6 0), .ref q7, .ref q8, .int 0, .int 0])) :: ((q1, .inl (d 4, 8, .inr (.inr (.inr (.inr (va_up (va_up (va_up (va_up (va_up (va_up (va_up (va_up (fun _ => none) 0 (some (u9 0))) 1 (some (u10 0))) 2 (some (u11 0))) 3 (some (u12 0))) 4 (some (u13 0))) 5 (some (u14 0))) 6 (some (u15 0))) 7 (some (u16 0)))))))) :: ((q5, .inl (d 5, 2, .inr (.inr (.inr (.inr (va_up (fun _ => none) 0 (some (u17 0)))))))) :: (hsW d u17 ++ (wRow d u16 ++ (wRow d u15 ++ (wRow d u14 ++ (wRow d u13 ++ (wRow d u12 ++ (wRow d u11 ++ (wRow d u10 ++ (wRow d u9 ++ ((q8, .inl (d 1, 4, .inl (fun _ => 0))) :: ((q7, .inl (d 1, 4, .inl (fun _ => 0))) :: (wAsks d (u3 16) u6 ++ (hsW d u4 ++ (hsW d u3 ++ (wRead d u2 ++ [])))))))))))))))))) _ := hP
  have hD : va_D A ((h0, .inr (7, [.ref q1, .ref (u2 0), .ref (u3 0), .ref (u4 0), .ref q5, .ref (u6 0), .ref q7, .ref q8, .int 0, .int 0])) :: ((q1, .inl (d 4, 8, .inr (.inr (.inr (.inr (va_up (va_up (va_up (va_up (va_up (va_up (va_up (va_up (fun _ => none) 0 (some (u9 0))) 1 (some (u10 0))) 2 (some (u11 0))) 3 (some (u12 0))) 4 (some (u13 0))) 5 (some (u14 0))) 6 (some (u15 0))) 7 (some (u16 0)))))))) :: ((q5, .inl (d 5, 2, .inr (.inr (.inr (.inr (va_up (fun _ => none) 0 (some (u17 0)))))))) :: (hsW d u17 ++ (wRow d u16 ++ (wRow d u15 ++ (wRow d u14 ++ (wRow d u13 ++ (wRow d u12 ++ (wRow d u11 ++ (wRow d u10 ++ (wRow d u9 ++ ((q8, .inl (d 1, 4, .inl (fun _ => 0))) :: ((q7, .inl (d 1, 4, .inl (fun _ => 0))) :: (wAsks d (u3 16) u6 ++ (hsW d u4 ++ (hsW d u3 ++ (wRead d u2 ++ [])))))))))))))))))) := hD
  refine lv_iinc (v := 1) (lv' := [(1, .int 1), (0, .ref h0)]) hx hb dX7_init_133 hl (k := 0) rfl (by decide) (by decide) rfl (fun ls hl => ?_)
  refine lv_goto (tgt := 115) hx hb dX7_init_136 (by decide) ?_
  refine lv_iload_n hx hb dX7_init_115 rfl (lv_at hl 0 rfl) ?_
  refine lv_iconst (v := 2) hx hb dX7_init_116 (by decide) ?_
  refine lv_icmp_ge (tgt := 139) hx hb dX7_init_117 (by decide) (fun z => absurd z (by decide)) (fun _ => ?_)
  refine lv_aload_n hx hb dX7_init_120 rfl (lv_at hl 1 rfl) ?_
  refine dx_get (own := RX7) 7 4 (by decide) (by decide) dxw_400 hown hx hb hts hK hP 0 (fs := [.ref q1, .ref (u2 0), .ref (u3 0), .ref (u4 0), .ref q5, .ref (u6 0), .ref q7, .ref q8, .int 0, .int 0]) rfl (v := .ref q5) rfl dX7_init_121 ?_
  refine lv_iload_n hx hb dX7_init_124 rfl (lv_at hl 0 rfl) ?_
  refine dx_new (own := RX7) (d := d) (k1 := 109) (n1 := 2855) 2 (by decide) (fs := [.null, .null, .null]) dx_df2 dxw_154 dxw_155 dxw_94 hown hx hb hts hK hP hD hS hA rfl rfl (Nat.le_of_ble_eq_true rfl) (Nat.le_of_ble_eq_true rfl) dX7_init_125 (fun q18 H hP hD hS => ?_)
  refine lv_dup hx hb dX7_init_128 rfl ?_
  refine dx_call (As := []) (st := [.ref q18, .ref q18, .int 1, .ref q5]) (rest := [.ref q18, .int 1, .ref q5]) (k1 := 136) (n1 := 3537) (own := RX7) (k_X2 l D d) (Or.inr (hK.2.2 (RX7, 24, yX2_init) (List.mem_of_getElem? (i := 1) rfl))) dx_cw2 dxw_94 dxw_157 rfl ⟨by decide, by decide, dx_na2⟩ ⟨rfl, rfl⟩ ⟨Nat.le_of_ble_eq_true rfl, Nat.le_of_ble_eq_true rfl⟩ hown hx hb hts hml hl.1 hK hP hD hS hA rfl rfl (Nat.le_of_ble_eq_true rfl) (Nat.le_of_ble_eq_true rfl) rfl (Nat.le_of_ble_eq_true rfl) dX7_init_129 (fun u18 H2 locs2 hw hP2 hD2 hS2 => ?_)
  have hw : u18 0 = q18 := hw
  subst hw
  have hP := hP2
  have hD := hD2
  have hS := hS2
  have hP := dx_insP3 hP
  have hD := dx_insD3 hD
  have hP : va_P D vwCl ((h0, .inr (7, [.ref q1, .ref (u2 0), .ref (u3 0), .ref (u4 0), .ref q5, .ref (u6 0), .ref q7, .ref q8, .int 0, .int 0])) :: ((q1, .inl (d 4, 8, .inr (.inr (.inr (.inr (va_up (va_up (va_up (va_up (va_up (va_up (va_up (va_up (fun _ => none) 0 (some (u9 0))) 1 (some (u10 0))) 2 (some (u11 0))) 3 (some (u12 0))) 4 (some (u13 0))) 5 (some (u14 0))) 6 (some (u15 0))) 7 (some (u16 0)))))))) :: ((q5, .inl (d 5, 2, .inr (.inr (.inr (.inr (va_up (fun _ => none) 0 (some (u17 0)))))))) :: (hsW d u18 ++ (hsW d u17 ++ (wRow d u16 ++ (wRow d u15 ++ (wRow d u14 ++ (wRow d u13 ++ (wRow d u12 ++ (wRow d u11 ++ (wRow d u10 ++ (wRow d u9 ++ ((q8, .inl (d 1, 4, .inl (fun _ => 0))) :: ((q7, .inl (d 1, 4, .inl (fun _ => 0))) :: (wAsks d (u3 16) u6 ++ (hsW d u4 ++ (hsW d u3 ++ (wRead d u2 ++ []))))))))))))))))))) _ := hP
  have hD : va_D A ((h0, .inr (7, [.ref q1, .ref (u2 0), .ref (u3 0), .ref (u4 0), .ref q5, .ref (u6 0), .ref q7, .ref q8, .int 0, .int 0])) :: ((q1, .inl (d 4, 8, .inr (.inr (.inr (.inr (va_up (va_up (va_up (va_up (va_up (va_up (va_up (va_up (fun _ => none) 0 (some (u9 0))) 1 (some (u10 0))) 2 (some (u11 0))) 3 (some (u12 0))) 4 (some (u13 0))) 5 (some (u14 0))) 6 (some (u15 0))) 7 (some (u16 0)))))))) :: ((q5, .inl (d 5, 2, .inr (.inr (.inr (.inr (va_up (fun _ => none) 0 (some (u17 0)))))))) :: (hsW d u18 ++ (hsW d u17 ++ (wRow d u16 ++ (wRow d u15 ++ (wRow d u14 ++ (wRow d u13 ++ (wRow d u12 ++ (wRow d u11 ++ (wRow d u10 ++ (wRow d u9 ++ ((q8, .inl (d 1, 4, .inl (fun _ => 0))) :: ((q7, .inl (d 1, 4, .inl (fun _ => 0))) :: (wAsks d (u3 16) u6 ++ (hsW d u4 ++ (hsW d u3 ++ (wRead d u2 ++ []))))))))))))))))))) := hD
  refine va_astq hx hb hK.1 hP hD hS 2 4 3 2 (n := 2) (v := (u18 0)) (vs := [.ref (u18 1), .ref (u18 13), .ref (u18 16)]) (r := mx_cl 2) (f := va_up (fun _ => none) 0 (some (u17 0))) rfl rfl rfl (mx_cl_at (by decide)) (i := 1) (show ¬ ((1 : Int32) < 0 ∨ 2 ≤ (1 : Int32).toNatClampNeg) by decide) dX7_init_132 (fun H locs hP hD hS => ?_)
  have hP : va_P D vwCl ((h0, .inr (7, [.ref q1, .ref (u2 0), .ref (u3 0), .ref (u4 0), .ref q5, .ref (u6 0), .ref q7, .ref q8, .int 0, .int 0])) :: ((q1, .inl (d 4, 8, .inr (.inr (.inr (.inr (va_up (va_up (va_up (va_up (va_up (va_up (va_up (va_up (fun _ => none) 0 (some (u9 0))) 1 (some (u10 0))) 2 (some (u11 0))) 3 (some (u12 0))) 4 (some (u13 0))) 5 (some (u14 0))) 6 (some (u15 0))) 7 (some (u16 0)))))))) :: ((q5, .inl (d 5, 2, .inr (.inr (.inr (.inr (va_up (va_up (fun _ => none) 0 (some (u17 0))) 1 (some (u18 0)))))))) :: (hsW d u18 ++ (hsW d u17 ++ (wRow d u16 ++ (wRow d u15 ++ (wRow d u14 ++ (wRow d u13 ++ (wRow d u12 ++ (wRow d u11 ++ (wRow d u10 ++ (wRow d u9 ++ ((q8, .inl (d 1, 4, .inl (fun _ => 0))) :: ((q7, .inl (d 1, 4, .inl (fun _ => 0))) :: (wAsks d (u3 16) u6 ++ (hsW d u4 ++ (hsW d u3 ++ (wRead d u2 ++ []))))))))))))))))))) _ := hP
  have hD : va_D A ((h0, .inr (7, [.ref q1, .ref (u2 0), .ref (u3 0), .ref (u4 0), .ref q5, .ref (u6 0), .ref q7, .ref q8, .int 0, .int 0])) :: ((q1, .inl (d 4, 8, .inr (.inr (.inr (.inr (va_up (va_up (va_up (va_up (va_up (va_up (va_up (va_up (fun _ => none) 0 (some (u9 0))) 1 (some (u10 0))) 2 (some (u11 0))) 3 (some (u12 0))) 4 (some (u13 0))) 5 (some (u14 0))) 6 (some (u15 0))) 7 (some (u16 0)))))))) :: ((q5, .inl (d 5, 2, .inr (.inr (.inr (.inr (va_up (va_up (fun _ => none) 0 (some (u17 0))) 1 (some (u18 0)))))))) :: (hsW d u18 ++ (hsW d u17 ++ (wRow d u16 ++ (wRow d u15 ++ (wRow d u14 ++ (wRow d u13 ++ (wRow d u12 ++ (wRow d u11 ++ (wRow d u10 ++ (wRow d u9 ++ ((q8, .inl (d 1, 4, .inl (fun _ => 0))) :: ((q7, .inl (d 1, 4, .inl (fun _ => 0))) :: (wAsks d (u3 16) u6 ++ (hsW d u4 ++ (hsW d u3 ++ (wRead d u2 ++ []))))))))))))))))))) := hD
  refine lv_iinc (v := 2) (lv' := [(1, .int 2), (0, .ref h0)]) hx hb dX7_init_133 hl (k := 0) rfl (by decide) (by decide) rfl (fun ls hl => ?_)
  refine lv_goto (tgt := 115) hx hb dX7_init_136 (by decide) ?_
  refine lv_iload_n hx hb dX7_init_115 rfl (lv_at hl 0 rfl) ?_
  refine lv_iconst (v := 2) hx hb dX7_init_116 (by decide) ?_
  refine lv_icmp_ge (tgt := 139) hx hb dX7_init_117 (by decide) (fun _ => ?_) (fun z => absurd (by decide) z)
  obtain ⟨u, hu⟩ : ∃ u : Nat → Nat → Nat, u = (dx_uX h0 q1 u2 u3 u4 q5 u6 q7 q8 (fun k => match k with | 0 => u9 | 1 => u10 | 2 => u11 | 3 => u12 | 4 => u13 | 5 => u14 | 6 => u15 | _ => u16) u17 u18) := ⟨_, rfl⟩
  obtain ⟨hP, hD⟩ := dx_arr (fun j => some (u j 32)) hP hD (i := 1) (n := 8) rfl (fun j hj => by rw [hu]; rcases (show j = 0 ∨ j = 1 ∨ j = 2 ∨ j = 3 ∨ j = 4 ∨ j = 5 ∨ j = 6 ∨ j = 7 by omega) with rfl | rfl | rfl | rfl | rfl | rfl | rfl | rfl <;> rfl)
  have hP : va_P D vwCl ((h0, .inr (7, [.ref q1, .ref (u2 0), .ref (u3 0), .ref (u4 0), .ref q5, .ref (u6 0), .ref q7, .ref q8, .int 0, .int 0])) :: ((q1, .inl (d 4, 8, .inr (.inr (.inr (.inr (fun j => some (u j 32))))))) :: ((q5, .inl (d 5, 2, .inr (.inr (.inr (.inr (va_up (va_up (fun _ => none) 0 (some (u17 0))) 1 (some (u18 0)))))))) :: (hsW d u18 ++ (hsW d u17 ++ (wRow d u16 ++ (wRow d u15 ++ (wRow d u14 ++ (wRow d u13 ++ (wRow d u12 ++ (wRow d u11 ++ (wRow d u10 ++ (wRow d u9 ++ ((q8, .inl (d 1, 4, .inl (fun _ => 0))) :: ((q7, .inl (d 1, 4, .inl (fun _ => 0))) :: (wAsks d (u3 16) u6 ++ (hsW d u4 ++ (hsW d u3 ++ (wRead d u2 ++ []))))))))))))))))))) _ := hP
  have hD : va_D A ((h0, .inr (7, [.ref q1, .ref (u2 0), .ref (u3 0), .ref (u4 0), .ref q5, .ref (u6 0), .ref q7, .ref q8, .int 0, .int 0])) :: ((q1, .inl (d 4, 8, .inr (.inr (.inr (.inr (fun j => some (u j 32))))))) :: ((q5, .inl (d 5, 2, .inr (.inr (.inr (.inr (va_up (va_up (fun _ => none) 0 (some (u17 0))) 1 (some (u18 0)))))))) :: (hsW d u18 ++ (hsW d u17 ++ (wRow d u16 ++ (wRow d u15 ++ (wRow d u14 ++ (wRow d u13 ++ (wRow d u12 ++ (wRow d u11 ++ (wRow d u10 ++ (wRow d u9 ++ ((q8, .inl (d 1, 4, .inl (fun _ => 0))) :: ((q7, .inl (d 1, 4, .inl (fun _ => 0))) :: (wAsks d (u3 16) u6 ++ (hsW d u4 ++ (hsW d u3 ++ (wRead d u2 ++ []))))))))))))))))))) := hD
  obtain ⟨hP, hD⟩ := dx_arr (fun j => some (u (j + 2) 0)) hP hD (i := 2) (n := 2) rfl (fun j hj => by rw [hu]; rcases (show j = 0 ∨ j = 1 by omega) with rfl | rfl <;> rfl)
  have hP : va_P D vwCl ((h0, .inr (7, [.ref q1, .ref (u2 0), .ref (u3 0), .ref (u4 0), .ref q5, .ref (u6 0), .ref q7, .ref q8, .int 0, .int 0])) :: ((q1, .inl (d 4, 8, .inr (.inr (.inr (.inr (fun j => some (u j 32))))))) :: ((q5, .inl (d 5, 2, .inr (.inr (.inr (.inr (fun j => some (u (j + 2) 0))))))) :: (hsW d u18 ++ (hsW d u17 ++ (wRow d u16 ++ (wRow d u15 ++ (wRow d u14 ++ (wRow d u13 ++ (wRow d u12 ++ (wRow d u11 ++ (wRow d u10 ++ (wRow d u9 ++ ((q8, .inl (d 1, 4, .inl (fun _ => 0))) :: ((q7, .inl (d 1, 4, .inl (fun _ => 0))) :: (wAsks d (u3 16) u6 ++ (hsW d u4 ++ (hsW d u3 ++ (wRead d u2 ++ []))))))))))))))))))) _ := hP
  have hD : va_D A ((h0, .inr (7, [.ref q1, .ref (u2 0), .ref (u3 0), .ref (u4 0), .ref q5, .ref (u6 0), .ref q7, .ref q8, .int 0, .int 0])) :: ((q1, .inl (d 4, 8, .inr (.inr (.inr (.inr (fun j => some (u j 32))))))) :: ((q5, .inl (d 5, 2, .inr (.inr (.inr (.inr (fun j => some (u (j + 2) 0))))))) :: (hsW d u18 ++ (hsW d u17 ++ (wRow d u16 ++ (wRow d u15 ++ (wRow d u14 ++ (wRow d u13 ++ (wRow d u12 ++ (wRow d u11 ++ (wRow d u10 ++ (wRow d u9 ++ ((q8, .inl (d 1, 4, .inl (fun _ => 0))) :: ((q7, .inl (d 1, 4, .inl (fun _ => 0))) :: (wAsks d (u3 16) u6 ++ (hsW d u4 ++ (hsW d u3 ++ (wRead d u2 ++ []))))))))))))))))))) := hD
  subst hu
  have hP9 : va_P D vwCl (dx_wX D d (dx_uX h0 q1 u2 u3 u4 q5 u6 q7 q8 (fun k => match k with | 0 => u9 | 1 => u10 | 2 => u11 | 3 => u12 | 4 => u13 | 5 => u14 | 6 => u15 | _ => u16) u17 u18)) _ := hP
  have hD9 : va_D A (dx_wX D d (dx_uX h0 q1 u2 u3 u4 q5 u6 q7 q8 (fun k => match k with | 0 => u9 | 1 => u10 | 2 => u11 | 3 => u12 | 4 => u13 | 5 => u14 | 6 => u15 | _ => u16) u17 u18)) := hD
  exact W.vret hx hb hr (fun t ht hW => ⟨⟨(dx_uX h0 q1 u2 u3 u4 q5 u6 q7 q8 (fun k => match k with | 0 => u9 | 1 => u10 | 2 => u11 | 3 => u12 | 4 => u13 | 5 => u14 | 6 => u15 | _ => u16) u17 u18), rfl, rfl, by rw [ht]; exact hP9, hD9⟩, hS.F ht⟩) hS.2.2 dX7_init_139
