/-! NumberGoblets() -/
def gP0 : Nat → Int32 := fun j => if 1 ≤ j ∧ j ≤ 100 then 8 else -1
theorem i0_Ginit : ∀ w ∈ u_ws RX0 TX0 4, w ∈ wsX1_init := by decide +kernel
theorem i1_Ginit : ∀ w ∈ u_ws RX1 TX1 3, w ∈ wsX1_init := by decide +kernel
theorem gEv0 : gEv gP0 100 := by
  refine ⟨Nat.le_refl _, by omega, fun j hj => ?_, fun j h1 h2 => ?_⟩
  · unfold gP0; rw [if_neg (by omega)]
  · unfold gP0; rw [if_pos ⟨h1, h2⟩]; decide
set_option maxHeartbeats 4000000 in
set_option maxRecDepth 100000 in
/-- NumberGoblets() -/
theorem c_Ginit (l : Launch) (D : va_G) (tys : List (ClassId × FieldType)) (X : va_W) (S : gS) (sz : Nat) {i h0 : Nat} (hX : X[i]? = some (h0, .inr (1, [.null, .int 0, .int 0]))) : Met l yX1_init wsX1_init ({ frames := 2, cells := 2, slots := 8, locals := 36 } : Room) (gP D tys [.ref h0] (X ++ va_pl [] (gE S)) sz gN) (va_Qv (fun u : Nat × List Nat × gS => gCh gP0 u.1 u.2) (fun u t => gWd D tys (va_A (X ++ va_pl [] (gE S)) sz) (X.set i (gO h0 u.1 (nI 100) 1) ++ va_pl u.2.1 (gE u.2.2)) t) (va_A (X ++ va_pl [] (gE S)) sz)) 2 8 (va_A (X ++ va_pl [] (gE S)) sz) := by
  refine g_ofW (cc := cX1_init) (maxL := 2) (ret := none) (by decide) rfl (Nat.le_of_ble_eq_true rfl) ?_
  intro p e s m below meth c hx hb hr hml hts hown hlocks hin hsz hP hK hD hA hS hG ls hl
  subst hsz
  have hown : s.vm.findClass RX1 = some m.cls := hown
  have hin : meth.name = "<init>" := hin
  have hl : lv_has ls 2 [(0, .ref h0)] := hl
  obtain ⟨-, nm_init, -⟩ := id hG
  refine lv_aload_n hx hb dX1_init_0 rfl (lv_at hl 0 rfl) ?_
  refine W.objInit hx hb hown (hts (.methodLink RX1 1 objectInit) (by decide +kernel)) (hts (.instanceMethod objectInit) (by decide +kernel)) (hts (.code objectInit ⟨#[0xb1]⟩ 1 none) (by decide +kernel)) rfl (by rw [hml]; exact hl.1) rfl dX1_init_1 (Nat.le_of_ble_eq_true rfl) (Nat.le_of_ble_eq_true rfl) ?_
  refine W.eq (g2 := F0 m 4 ls []) rfl ?_
  refine va_new (ci := 0) (fs := [.int 0, .int 0, .int 0, .null]) (C := RX0) (T := TX0) (N := 4) hx hb hts i0_Ginit tyX0 tyX0_ok hown (hts (.classLink RX1 7 RX0) (by decide +kernel)) (hts (.instantiable RX0 4) (by decide +kernel)) (hts (.initialized RX0) (by decide +kernel)) hK hP hD hS hA rfl (fun j hj => by rcases (show j = 0 ∨ j = 1 ∨ j = 2 ∨ j = 3 by omega) with rfl | rfl | rfl | rfl <;> rfl) (Nat.le_of_ble_eq_true rfl) (Nat.le_of_ble_eq_true rfl) dX1_init_4 (fun q1 H hP hD hS => ?_)
  have hq1 : q1 ∉ [] := g_fresh hD
  rw [gE_new hq1] at hP hD
  refine lv_dup hx hb dX1_init_7 rfl ?_
  refine lv_bipush (v := 101) hx hb dX1_init_8 (by decide) ?_
  refine lv_sipush (v := 5000) hx hb dX1_init_10 (by decide) ?_
  refine lv_iconst (v := -1) hx hb dX1_init_13 (by decide) ?_
  refine lv_null hx hb dX1_init_14 ?_
  refine g_callv (va_runIN (b := q1) (As := [.int 101, .int 5000, .int (-1), .null]) (rest := [.ref q1]) ⟨hx, hb, hml, hown, hts⟩ (c_Sinit l D tys X ([] ++ [q1]) (va_up S q1 (0, 0, 0, none)) H.size (List.mem_append_right _ (List.mem_singleton.mpr rfl)) (va_up_self _ _ _) 101 5000 (-1) none) ⟨va_cnB 4 hts gX1_init_X0_init_n11 rfl rfl rfl nm_init (hts (.initialized RX0) (by decide +kernel)) (by decide +kernel) ⟨Nat.le_of_ble_eq_true rfl, Nat.le_of_ble_eq_true rfl⟩, rfl, hts (.instanceMethod yX0_init) (by decide +kernel)⟩ (gP_S hP hK hD gBl_T (fun _ _ _ => trivial)) rfl rfl hl.1 rfl (lv_room (Nat.le_of_ble_eq_true rfl)) dX1_init_15 ⟨Nat.le_of_ble_eq_true rfl, Nat.le_of_ble_eq_true rfl⟩) hD hS hA (fun u H locs _ hP hD hS => ?_)
  rw [bx_uu] at hP hD
  refine lv_astore_n (lv' := [(1, .ref q1), (0, .ref h0)]) hx hb dX1_init_18 rfl hl (by decide) rfl (fun ls hl => ?_)
  refine lv_aload_n hx hb dX1_init_19 rfl (lv_at hl 1 rfl) ?_
  refine va_new (ci := 0) (fs := [.int 0, .int 0, .int 0, .null]) (C := RX0) (T := TX0) (N := 4) hx hb hts i0_Ginit tyX0 tyX0_ok hown (hts (.classLink RX1 7 RX0) (by decide +kernel)) (hts (.instantiable RX0 4) (by decide +kernel)) (hts (.initialized RX0) (by decide +kernel)) hK hP hD hS hA rfl (fun j hj => by rcases (show j = 0 ∨ j = 1 ∨ j = 2 ∨ j = 3 by omega) with rfl | rfl | rfl | rfl <;> rfl) (Nat.le_of_ble_eq_true rfl) (Nat.le_of_ble_eq_true rfl) dX1_init_20 (fun q2 H hP hD hS => ?_)
  have hq2 : q2 ∉ ([] ++ [q1]) := g_fresh hD
  rw [gE_new hq2] at hP hD
  refine lv_dup hx hb dX1_init_23 rfl ?_
  refine lv_iconst (v := 1) hx hb dX1_init_24 (by decide) ?_
  refine lv_bipush (v := 100) hx hb dX1_init_25 (by decide) ?_
  refine lv_bipush (v := 8) hx hb dX1_init_27 (by decide) ?_
  refine lv_aload_n hx hb dX1_init_29 rfl (lv_at hl 0 rfl) ?_
  refine g_callv (va_runIN (b := q2) (As := [.int 1, .int 100, .int 8, .ref q1]) (rest := [.ref q2, .ref h0]) ⟨hx, hb, hml, hown, hts⟩ (c_Sinit l D tys X (([] ++ [q1]) ++ [q2]) (va_up (va_up S q1 (101, 5000, -1, none)) q2 (0, 0, 0, none)) H.size (List.mem_append_right _ (List.mem_singleton.mpr rfl)) (va_up_self _ _ _) 1 100 8 (some q1)) ⟨va_cnB 4 hts gX1_init_X0_init_n11 rfl rfl rfl nm_init (hts (.initialized RX0) (by decide +kernel)) (by decide +kernel) ⟨Nat.le_of_ble_eq_true rfl, Nat.le_of_ble_eq_true rfl⟩, rfl, hts (.instanceMethod yX0_init) (by decide +kernel)⟩ (gP_S hP hK hD gBl_T (fun _ _ _ => trivial)) rfl rfl hl.1 rfl (lv_room (Nat.le_of_ble_eq_true rfl)) dX1_init_30 ⟨Nat.le_of_ble_eq_true rfl, Nat.le_of_ble_eq_true rfl⟩) hD hS hA (fun u H locs _ hP hD hS => ?_)
  rw [bx_uu] at hP hD
  obtain ⟨L2, hL2⟩ : ∃ z, z = (([] ++ [q1]) ++ [q2]) := ⟨_, rfl⟩
  obtain ⟨S2, hS2⟩ : ∃ z, z = (va_up (va_up S q1 (101, 5000, -1, none)) q2 (1, 100, 8, some q1)) := ⟨_, rfl⟩
  rw [← hL2, ← hS2] at hP hD
  refine va_putF (D := D) (ci := 1) (v := .ref q2) (ty := .object "NumberGoblets$Stretch") (C := RX1) (T := TX1) (N := 3) hx hb hts i1_Ginit tyX1 tyX1_ok nmX1 hown hK hP hD hS i (g_inX hX) rfl 0 (by decide) (hts (.fieldLink RX1 14 "NumberGoblets" "lowest" "LNumberGoblets$Stretch;") (by decide +kernel)) (fun _ h9 => h9) rfl hin rfl (by decide +kernel) rfl rfl (Nat.le_of_ble_eq_true rfl) dX1_init_33 (fun H locs hP2 hD2 hS => ?_)
  have hw := g_setX (Y := va_pl L2 (gE S2)) (v := ((h0, .inr (1, [.ref q2, .int 0, .int 0])) : Nat × va_E)) hX
  have hP := g_eqP hw hP2
  have hD := g_eqD hw hD2
  have hX := g_setX2 (v := ((h0, .inr (1, [.ref q2, .int 0, .int 0])) : Nat × va_E)) hX
  refine lv_aload_n hx hb dX1_init_36 rfl (lv_at hl 1 rfl) ?_
  refine lv_bipush (v := 100) hx hb dX1_init_37 (by decide) ?_
  refine va_put (D := D) (ci := 1) (v := .int 100) (ty := .int) (C := RX1) (T := TX1) (N := 3) hx hb hts i1_Ginit tyX1 tyX1_ok nmX1 hown hK hP hD hS i (g_inX hX) rfl 1 (by decide) (hts (.fieldLink RX1 18 "NumberGoblets" "size" "I") (by decide +kernel)) (fun _ h9 => h9) rfl (by decide +kernel) rfl rfl (Nat.le_of_ble_eq_true rfl) dX1_init_39 (fun H locs hP2 hD2 hS => ?_)
  have hw := g_setX (Y := va_pl L2 (gE S2)) (v := ((h0, .inr (1, [.ref q2, .int 100, .int 0])) : Nat × va_E)) hX
  have hP := g_eqP hw hP2
  have hD := g_eqD hw hD2
  have hX := g_setX2 (v := ((h0, .inr (1, [.ref q2, .int 100, .int 0])) : Nat × va_E)) hX
  rw [List.set_set] at hX hP hD
  refine lv_aload_n hx hb dX1_init_42 rfl (lv_at hl 1 rfl) ?_
  refine lv_iconst (v := 1) hx hb dX1_init_43 (by decide) ?_
  refine va_put (D := D) (ci := 1) (v := .int 1) (ty := .int) (C := RX1) (T := TX1) (N := 3) hx hb hts i1_Ginit tyX1 tyX1_ok nmX1 hown hK hP hD hS i (g_inX hX) rfl 2 (by decide) (hts (.fieldLink RX1 22 "NumberGoblets" "round" "I") (by decide +kernel)) (fun _ h9 => h9) rfl (by decide +kernel) rfl rfl (Nat.le_of_ble_eq_true rfl) dX1_init_44 (fun H locs hP2 hD2 hS => ?_)
  have hw := g_setX (Y := va_pl L2 (gE S2)) (v := ((h0, .inr (1, [.ref q2, .int 100, .int 1])) : Nat × va_E)) hX
  have hP := g_eqP hw hP2
  have hD := g_eqD hw hD2
  have hX := g_setX2 (v := ((h0, .inr (1, [.ref q2, .int 100, .int 1])) : Nat × va_E)) hX
  rw [List.set_set] at hX hP hD
  have hne : q1 ≠ q2 := fun z => hq2 (by rw [← z]; exact List.mem_append_right _ (List.mem_singleton.mpr rfl))
  have hm1 : q1 ∈ L2 := by rw [hL2]; exact List.mem_append_left _ (List.mem_append_right _ (List.mem_singleton.mpr rfl))
  have hm2 : q2 ∈ L2 := by rw [hL2]; exact List.mem_append_right _ (List.mem_singleton.mpr rfl)
  have hs2 : S2 q2 = (1, 100, 8, some q1) := by rw [hS2, va_up_self]
  have hs1 : S2 q1 = (101, 5000, -1, none) := by rw [hS2, va_up_ne _ _ hne, va_up_self]
  have hC : gCh gP0 q2 (L2, S2) := by
    refine ⟨[(1, 100, 8), (101, 5000, -1)], ⟨q2, some q1, rfl, hm2, hs2, q1, none, rfl, hm1, hs1, rfl⟩, ⟨rfl, by show 1 ≤ 100; omega, by show 100 ≤ 5000; omega, fun j h1 h2 => ?_, rfl, by show 101 ≤ 5000; omega, Nat.le_refl _, fun j h1 h2 => ?_, rfl⟩, Or.inl rfl, Or.inr ?_, trivial⟩
    · have h2 : j ≤ 100 := h2
      show gP0 j = 8; unfold gP0; rw [if_pos ⟨h1, h2⟩]
    · have h1 : 101 ≤ j := h1
      show gP0 j = -1; unfold gP0; rw [if_neg (by omega)]
    · show ¬ gP0 100 = -1; decide
  exact g_retv (wo := fun u : Nat × List Nat × gS => X.set i (gO h0 u.1 (nI 100) 1) ++ va_pl u.2.1 (gE u.2.2)) hx hb hr hlocks hK (q2, L2, S2) hP hD hS (Nat.le_of_ble_eq_true rfl) (Nat.le_of_ble_eq_true rfl) hC dX1_init_47
