/-! the methods of Stretch -/
theorem g_nar {n : String} (x : Option Nat) : narrow (.object n) (va_rf x) = va_rf x := by cases x <;> rfl
theorem g_fit {n : String} (x : Option Nat) : fits (.object n) (va_rf x) = true := by cases x <;> rfl
theorem g_eqP {D : va_G} {H : Heap} {w1 w2 : va_W} (h : w1 = w2) (hd : va_P D vwCl w1 H) : va_P D vwCl w2 H := h ▸ hd
theorem g_eqD {A : Nat → Prop} {w1 w2 : va_W} (h : w1 = w2) (hd : va_D A w1) : va_D A w2 := h ▸ hd
theorem g_fresh {A : Nat → Prop} {X : va_W} {L : List Nat} {f : Nat → va_E} {q : Nat} {e : va_E} (hD : va_D A ((X ++ va_pl L f) ++ [(q, e)])) : q ∉ L := by
  intro h
  obtain ⟨k, hk⟩ := va_pl_get (X := X) (f := f) h
  have hl := (List.getElem?_eq_some_iff.mp hk).1
  have h2 : ((X ++ va_pl L f) ++ [(q, e)])[k]? = some (q, f q) := by rw [List.getElem?_append_left hl]; exact hk
  have h3 : ((X ++ va_pl L f) ++ [(q, e)])[(X ++ va_pl L f).length]? = some (q, e) := by rw [List.getElem?_append_right (Nat.le_refl _), Nat.sub_self]; rfl
  have := hD.1 _ _ _ _ h2 h3 rfl
  omega
section GTOP
variable {p : Program} {l : Launch} {e : Env} {R : Room} {s : State} {m : MethodId} {args : Array Value} {below : List Frame} {meth : Method} {c : Code} {H : Heap} {locs : List Loc} {cells slots : Nat} {Q : State → Prop} {pc : Nat} {ls : Array Slot} {rest : List Value}
theorem g_top {x y : Int32} (h : x = y) (k : W p l e R s m args below meth c H locs cells slots Q (F0 m pc ls (.int y :: rest))) : W p l e R s m args below meth c H locs cells slots Q (F0 m pc ls (.int x :: rest)) := by rw [h]; exact k
end GTOP
theorem i0_init : ∀ w ∈ u_ws RX0 TX0 4, w ∈ wsX0_init := by decide +kernel
theorem i0_length : ∀ w ∈ u_ws RX0 TX0 4, w ∈ wsX0_length := by decide +kernel
theorem i0_shortenTo : ∀ w ∈ u_ws RX0 TX0 4, w ∈ wsX0_shortenTo := by decide +kernel
theorem i0_absorb : ∀ w ∈ u_ws RX0 TX0 4, w ∈ wsX0_absorbNextOnesOfSamePlace := by decide +kernel
set_option maxHeartbeats 4000000 in
set_option maxRecDepth 100000 in
/-- length(): last - first + 1 -/
theorem c_len (l : Launch) (D : va_G) (tys : List (ClassId × FieldType)) (X : va_W) (L : List Nat) (S : gS) (sz : Nat) {a f la : Nat} {pl : Int32} {nx : Option Nat} (hL : a ∈ L) (hSa : S a = (f, la, pl, nx)) (hf : f ≤ la) : Met l yX0_length wsX0_length ({ frames := 0, cells := 0, slots := 0, locals := 0 }) (gP D tys [.ref a] (X ++ va_pl L (gE S)) sz (fun _ => True)) (va_Qi (fun (r : Int32) (_ : Unit) => r = nI (la - f + 1)) (fun _ t => gWd D tys (va_A (X ++ va_pl L (gE S)) sz) (X ++ va_pl L (gE S)) t) (va_A (X ++ va_pl L (gE S)) sz)) 0 0 (va_A (X ++ va_pl L (gE S)) sz) := by
  refine g_ofW (cc := cX0_length) (maxL := 1) (ret := some .int) (by decide) rfl (Nat.le_of_ble_eq_true rfl) ?_
  intro p e s m below meth c hx hb hr hml hts hown hlocks hin hsz hP hK hD hA hS hG ls hl
  subst hsz
  have hown : s.vm.findClass RX0 = some m.cls := hown
  have hl : lv_has ls 1 [(0, .ref a)] := hl
  have hi0 := i0_length
  have f_first := hts (.fieldLink RX0 7 "NumberGoblets$Stretch" "first" "I") (by decide +kernel)
  have f_last := hts (.fieldLink RX0 13 "NumberGoblets$Stretch" "last" "I") (by decide +kernel)
  obtain ⟨k, hk0, hk⟩ := gE_get (X := X) hL hSa
  refine lv_aload_n hx hb dX0_length_0 rfl (lv_at hl 0 rfl) ?_
  refine va_get (D := D) (ci := 0) (v := .int (nI la)) (C := RX0) (T := TX0) (N := 4) hx hb hts hi0 hown hK hP k hk rfl 1 (by decide) f_last (fun _ h9 => h9) rfl dX0_length_1 ?_
  refine lv_aload_n hx hb dX0_length_4 rfl (lv_at hl 0 rfl) ?_
  refine va_get (D := D) (ci := 0) (v := .int (nI f)) (C := RX0) (T := TX0) (N := 4) hx hb hts hi0 hown hK hP k hk rfl 0 (by decide) f_first (fun _ h9 => h9) rfl dX0_length_5 ?_
  refine lv_isub hx hb dX0_length_8 ?_
  refine g_top (y := nI (la - f)) (pk_sub hf) ?_
  refine lv_iconst (v := 1) hx hb dX0_length_9 (by decide) ?_
  refine lv_iadd hx hb dX0_length_10 ?_
  refine g_top (y := nI (la - f + 1)) (nI_1 _) ?_
  exact g_reti hx hb hr hlocks hK _ () hP hD hS (Nat.le_refl _) (Nat.le_refl _) rfl dX0_length_11
set_option maxHeartbeats 4000000 in
set_option maxRecDepth 100000 in
/-- Stretch(first, last, place, next) -/
theorem c_Sinit (l : Launch) (D : va_G) (tys : List (ClassId × FieldType)) (X : va_W) (L : List Nat) (S : gS) (sz : Nat) {a f0 l0 : Nat} {p0 : Int32} {n0 : Option Nat} (hL : a ∈ L) (hSa : S a = (f0, l0, p0, n0)) (f la : Nat) (pl : Int32) (nx : Option Nat) : Met l yX0_init wsX0_init ({ frames := 1, cells := 0, slots := 0, locals := 12 }) (gP D tys [.ref a, .int (nI f), .int (nI la), .int pl, va_rf nx] (X ++ va_pl L (gE S)) sz (fun _ => True)) (va_Qv (fun _ : Unit => True) (fun _ t => gWd D tys (va_A (X ++ va_pl L (gE S)) sz) (X ++ va_pl L (gE (va_up S a (f, la, pl, nx)))) t) (va_A (X ++ va_pl L (gE S)) sz)) 0 0 (va_A (X ++ va_pl L (gE S)) sz) := by
  refine g_ofW (cc := cX0_init) (maxL := 5) (ret := none) (by decide) rfl (by cases nx <;> exact Nat.le_of_ble_eq_true rfl) ?_
  intro p e s m below meth c hx hb hr hml hts hown hlocks hin hsz hP hK hD hA hS hG ls hl
  subst hsz
  have hown : s.vm.findClass RX0 = some m.cls := hown
  have hin : meth.name = "<init>" := hin
  have hl : lv_has ls 5 [(0, .ref a), (1, .int (nI f)), (2, .int (nI la)), (3, .int pl), (4, va_rf nx)] := hl
  have hi0 := i0_init
  have f_first := hts (.fieldLink RX0 7 "NumberGoblets$Stretch" "first" "I") (by decide +kernel)
  have f_last := hts (.fieldLink RX0 13 "NumberGoblets$Stretch" "last" "I") (by decide +kernel)
  have f_place := hts (.fieldLink RX0 16 "NumberGoblets$Stretch" "place" "I") (by decide +kernel)
  have f_next := hts (.fieldLink RX0 19 "NumberGoblets$Stretch" "next" "LNumberGoblets$Stretch;") (by decide +kernel)
  refine lv_aload_n hx hb dX0_init_0 rfl (lv_at hl 0 rfl) ?_
  refine W.objInit hx hb hown (hts (.methodLink RX0 1 objectInit) (by decide +kernel)) (hts (.instanceMethod objectInit) (by decide +kernel)) (hts _ (List.mem_cons_of_mem _ (List.mem_append_left _ (List.mem_of_getElem? (i := 2) rfl)))) rfl (by rw [hml]; exact hl.1) rfl dX0_init_1 (Nat.le_of_ble_eq_true rfl) (Nat.le_of_ble_eq_true rfl) ?_
  refine W.eq (g2 := F0 m 4 ls []) rfl ?_
  obtain ⟨k0, hk0, hk⟩ := gE_get (X := X) hL hSa
  refine lv_aload_n hx hb dX0_init_4 rfl (lv_at hl 0 rfl) ?_
  refine lv_iload_n hx hb dX0_init_5 rfl (lv_at hl 1 rfl) ?_
  have hw := gE_put (f := f) (la := l0) (pl := p0) (nx := n0) hD hL hk0
  refine va_putF (D := D) (ci := 0) (v := .int (nI f)) (ty := .int) (C := RX0) (T := TX0) (N := 4) hx hb hts hi0 tyX0 tyX0_ok nmX0 hown hK hP hD hS k0 hk rfl 0 (by decide) f_first (fun _ h9 => h9) rfl hin rfl (by decide +kernel) rfl rfl (Nat.le_of_ble_eq_true rfl) dX0_init_6 (fun H locs hP2 hD2 hS => ?_)
  have hP := g_eqP hw hP2
  have hD := g_eqD hw hD2
  obtain ⟨k1, hk0, hk⟩ := gE_get (X := X) (S := (va_up S a (f, l0, p0, n0))) hL (va_up_self _ _ _)
  refine lv_aload_n hx hb dX0_init_9 rfl (lv_at hl 0 rfl) ?_
  refine lv_iload_n hx hb dX0_init_10 rfl (lv_at hl 2 rfl) ?_
  have hw := gE_put (f := f) (la := la) (pl := p0) (nx := n0) hD hL hk0
  refine va_put (D := D) (ci := 0) (v := .int (nI la)) (ty := .int) (C := RX0) (T := TX0) (N := 4) hx hb hts hi0 tyX0 tyX0_ok nmX0 hown hK hP hD hS k1 hk rfl 1 (by decide) f_last (fun _ h9 => h9) rfl (by decide +kernel) rfl rfl (Nat.le_of_ble_eq_true rfl) dX0_init_11 (fun H locs hP2 hD2 hS => ?_)
  have hP := g_eqP hw hP2
  have hD := g_eqD hw hD2
  rw [bx_uu] at hP hD
  obtain ⟨k2, hk0, hk⟩ := gE_get (X := X) (S := (va_up S a (f, la, p0, n0))) hL (va_up_self _ _ _)
  refine lv_aload_n hx hb dX0_init_14 rfl (lv_at hl 0 rfl) ?_
  refine lv_iload_n hx hb dX0_init_15 rfl (lv_at hl 3 rfl) ?_
  have hw := gE_put (f := f) (la := la) (pl := pl) (nx := n0) hD hL hk0
  refine va_put (D := D) (ci := 0) (v := .int pl) (ty := .int) (C := RX0) (T := TX0) (N := 4) hx hb hts hi0 tyX0 tyX0_ok nmX0 hown hK hP hD hS k2 hk rfl 2 (by decide) f_place (fun _ h9 => h9) rfl (by decide +kernel) rfl rfl (Nat.le_of_ble_eq_true rfl) dX0_init_16 (fun H locs hP2 hD2 hS => ?_)
  have hP := g_eqP hw hP2
  have hD := g_eqD hw hD2
  rw [bx_uu] at hP hD
  obtain ⟨k3, hk0, hk⟩ := gE_get (X := X) (S := (va_up S a (f, la, pl, n0))) hL (va_up_self _ _ _)
  refine lv_aload_n hx hb dX0_init_19 rfl (lv_at hl 0 rfl) ?_
  refine lq_aload hx hb dX0_init_20 (lv_at hl 4 rfl) ?_
  have hw := gE_put (f := f) (la := la) (pl := pl) (nx := nx) hD hL hk0
  refine va_put (D := D) (ci := 0) (v := va_rf nx) (ty := .object "NumberGoblets$Stretch") (C := RX0) (T := TX0) (N := 4) hx hb hts hi0 tyX0 tyX0_ok nmX0 hown hK hP hD hS k3 hk rfl 3 (by decide) f_next (fun _ h9 => h9) rfl (by decide +kernel) (g_nar nx) (g_fit nx) (Nat.le_of_ble_eq_true rfl) dX0_init_22 (fun H locs hP2 hD2 hS => ?_)
  have hP := g_eqP hw hP2
  have hD := g_eqD hw hD2
  rw [bx_uu] at hP hD
  exact g_retv hx hb hr hlocks hK () hP hD hS (Nat.le_refl _) (Nat.le_refl _) trivial dX0_init_25
set_option maxHeartbeats 4000000 in
set_option maxRecDepth 100000 in
/-- shortenTo(most), where it is no longer than that -/
theorem c_shortA (l : Launch) (D : va_G) (tys : List (ClassId × FieldType)) (X : va_W) (L : List Nat) (S : gS) (sz : Nat) {a f la mo : Nat} {pl : Int32} {nx : Option Nat} (hL : a ∈ L) (hSa : S a = (f, la, pl, nx)) (hf : f ≤ la) (hm : mo < 2 ^ 31) (hle : la - f + 1 ≤ mo) : Met l yX0_shortenTo wsX0_shortenTo ({ frames := 1, cells := 0, slots := 0, locals := 20 }) (gP D tys [.ref a, .int (nI mo)] (X ++ va_pl L (gE S)) sz (fun _ => True)) (va_Qv (fun _ : Unit => True) (fun _ t => gWd D tys (va_A (X ++ va_pl L (gE S)) sz) (X ++ va_pl L (gE S)) t) (va_A (X ++ va_pl L (gE S)) sz)) 0 0 (va_A (X ++ va_pl L (gE S)) sz) := by
  refine g_ofW (cc := cX0_shortenTo) (maxL := 3) (ret := none) (by decide) rfl (Nat.le_of_ble_eq_true rfl) ?_
  intro p e s m below meth c hx hb hr hml hts hown hlocks hin hsz hP hK hD hA hS hG ls hl
  subst hsz
  have hown : s.vm.findClass RX0 = some m.cls := hown
  have hl : lv_has ls 3 [(0, .ref a), (1, .int (nI mo))] := hl
  obtain ⟨k, hk0, hk⟩ := gE_get (X := X) hL hSa
  refine lv_aload_n hx hb dX0_shortenTo_0 rfl (lv_at hl 0 rfl) ?_
  refine g_calli (va_runV (As := []) (rest := []) ⟨hx, hb, hml, hown, hts⟩ (c_len l D tys X L S s.heap.size hL hSa hf) (cwV 0 hts gX0_shortenTo_X0_length rfl rfl rfl (by decide +kernel) ⟨Nat.le_of_ble_eq_true rfl, Nat.le_of_ble_eq_true rfl⟩) (gP_V (va_recv hK hP (ci := 0) rfl hk) hP hK hD gBl_T (fun _ _ _ => trivial)) rfl rfl hl.1 rfl (lv_room (Nat.le_of_ble_eq_true rfl)) dX0_shortenTo_1 ⟨(Nat.zero_le _), (Nat.zero_le _)⟩) hD hS hA (fun r u H locs hr1 hP hD hS => ?_)
  subst hr1
  refine lv_iload_n hx hb dX0_shortenTo_4 rfl (lv_at hl 1 rfl) ?_
  refine lv_icmp_le (tgt := 48) hx hb dX0_shortenTo_5 (by decide) (fun c1 => ?_) (fun c1 => ?_)
  · exact g_retv hx hb hr hlocks hK () hP hD hS (Nat.le_refl _) (Nat.le_refl _) trivial dX0_shortenTo_48
  · exact absurd (nI_le hle hm) c1
set_option maxHeartbeats 4000000 in
set_option maxRecDepth 100000 in
/-- shortenTo(most), where it is longer: the others become a new stretch behind it -/
theorem c_shortB (l : Launch) (D : va_G) (tys : List (ClassId × FieldType)) (X : va_W) (L : List Nat) (S : gS) (sz : Nat) {a f la mo : Nat} {pl : Int32} {nx : Option Nat} (hL : a ∈ L) (hSa : S a = (f, la, pl, nx)) (hf : f ≤ la) (hm : 1 ≤ mo) (hle : mo < la - f + 1) (hla : la < 2 ^ 30) : Met l yX0_shortenTo wsX0_shortenTo ({ frames := 2, cells := 1, slots := 4, locals := 36 }) (gP D tys [.ref a, .int (nI mo)] (X ++ va_pl L (gE S)) sz (fun _ => True)) (va_Qv (fun q : Nat => q ∉ L) (fun q t => gWd D tys (va_A (X ++ va_pl L (gE S)) sz) (X ++ va_pl (L ++ [q]) (gE (va_up (va_up S q (f + mo, la, pl, nx)) a (f, f + mo - 1, pl, some q)))) t) (va_A (X ++ va_pl L (gE S)) sz)) 1 4 (va_A (X ++ va_pl L (gE S)) sz) := by
  refine g_ofW (cc := cX0_shortenTo) (maxL := 3) (ret := none) (by decide) rfl (Nat.le_of_ble_eq_true rfl) ?_
  intro p e s m below meth c hx hb hr hml hts hown hlocks hin hsz hP hK hD hA hS hG ls hl
  subst hsz
  have hown : s.vm.findClass RX0 = some m.cls := hown
  have hl : lv_has ls 3 [(0, .ref a), (1, .int (nI mo))] := hl
  have hi0 := i0_shortenTo
  have f_first := hts (.fieldLink RX0 7 "NumberGoblets$Stretch" "first" "I") (by decide +kernel)
  have f_last := hts (.fieldLink RX0 13 "NumberGoblets$Stretch" "last" "I") (by decide +kernel)
  have f_place := hts (.fieldLink RX0 16 "NumberGoblets$Stretch" "place" "I") (by decide +kernel)
  have f_next := hts (.fieldLink RX0 19 "NumberGoblets$Stretch" "next" "LNumberGoblets$Stretch;") (by decide +kernel)
  obtain ⟨k, hk0, hk⟩ := gE_get (X := X) hL hSa
  refine lv_aload_n hx hb dX0_shortenTo_0 rfl (lv_at hl 0 rfl) ?_
  refine g_calli (va_runV (As := []) (rest := []) ⟨hx, hb, hml, hown, hts⟩ (c_len l D tys X L S s.heap.size hL hSa hf) (cwV 0 hts gX0_shortenTo_X0_length rfl rfl rfl (by decide +kernel) ⟨Nat.le_of_ble_eq_true rfl, Nat.le_of_ble_eq_true rfl⟩) (gP_V (va_recv hK hP (ci := 0) rfl hk) hP hK hD gBl_T (fun _ _ _ => trivial)) rfl rfl hl.1 rfl (lv_room (Nat.le_of_ble_eq_true rfl)) dX0_shortenTo_1 ⟨(Nat.zero_le _), (Nat.zero_le _)⟩) hD hS hA (fun r u H locs hr1 hP hD hS => ?_)
  subst hr1
  refine lv_iload_n hx hb dX0_shortenTo_4 rfl (lv_at hl 1 rfl) ?_
  refine lv_icmp_le (tgt := 48) hx hb dX0_shortenTo_5 (by decide) (fun c1 => ?_) (fun c1 => ?_)
  · exact absurd c1 (nI_ge hle (by omega))
  · skip
    refine lv_aload_n hx hb dX0_shortenTo_8 rfl (lv_at hl 0 rfl) ?_
    refine va_get (D := D) (ci := 0) (v := .int (nI f)) (C := RX0) (T := TX0) (N := 4) hx hb hts hi0 hown hK hP k hk rfl 0 (by decide) f_first (fun _ h9 => h9) rfl dX0_shortenTo_9 ?_
    refine lv_iload_n hx hb dX0_shortenTo_12 rfl (lv_at hl 1 rfl) ?_
    refine lv_iadd hx hb dX0_shortenTo_13 ?_
    refine g_top (y := nI (f + mo)) (nI_add _ _) ?_
    refine lv_iconst (v := 1) hx hb dX0_shortenTo_14 (by decide) ?_
    refine lv_isub hx hb dX0_shortenTo_15 ?_
    refine g_top (y := nI (f + mo - 1)) (by rw [show (1 : Int32) = nI 1 from rfl]; exact pk_sub (by omega)) ?_
    refine lv_istore_n (lv' := [(2, .int (nI (f + mo - 1))), (0, .ref a), (1, .int (nI mo))]) hx hb dX0_shortenTo_16 rfl hl (by decide) rfl (fun ls hl => ?_)
    refine lv_aload_n hx hb dX0_shortenTo_17 rfl (lv_at hl 1 rfl) ?_
    refine va_new (ci := 0) (fs := [.int 0, .int 0, .int 0, .null]) (C := RX0) (T := TX0) (N := 4) hx hb hts hi0 tyX0 tyX0_ok hown (hts (.classLink RX0 8 RX0) (by decide +kernel)) (hts (.instantiable RX0 4) (by decide +kernel)) (hts (.initialized RX0) (by decide +kernel)) hK hP hD hS hA rfl (fun j hj => by rcases (show j = 0 ∨ j = 1 ∨ j = 2 ∨ j = 3 by omega) with rfl | rfl | rfl | rfl <;> rfl) (Nat.le_of_ble_eq_true rfl) (Nat.le_of_ble_eq_true rfl) dX0_shortenTo_18 (fun q H hP hD hS => ?_)
    have hq : q ∉ L := g_fresh hD
    have hqa : a ≠ q := fun z => hq (z ▸ hL)
    rw [gE_new hq] at hP hD
    have hSa1 : (va_up S q (0, 0, 0, none)) a = (f, la, pl, nx) := by rw [va_up_ne _ _ hqa]; exact hSa
    have hL1 : a ∈ L ++ [q] := List.mem_append_left _ hL
    have hq1 : q ∈ L ++ [q] := List.mem_append_right _ (List.mem_singleton.mpr rfl)
    obtain ⟨k2, hk20, hk2⟩ := gE_get (X := X) hL1 hSa1
    refine lv_dup hx hb dX0_shortenTo_21 rfl ?_
    refine lv_iload_n hx hb dX0_shortenTo_22 rfl (lv_at hl 0 rfl) ?_
    refine lv_iconst (v := 1) hx hb dX0_shortenTo_23 (by decide) ?_
    refine lv_iadd hx hb dX0_shortenTo_24 ?_
    refine g_top (y := nI (f + mo)) (by rw [nI_1, show f + mo - 1 + 1 = f + mo by omega]) ?_
    refine lv_aload_n hx hb dX0_shortenTo_25 rfl (lv_at hl 1 rfl) ?_
    refine va_get (D := D) (ci := 0) (v := .int (nI la)) (C := RX0) (T := TX0) (N := 4) hx hb hts hi0 hown hK hP k2 hk2 rfl 1 (by decide) f_last (fun _ h9 => h9) rfl dX0_shortenTo_26 ?_
    refine lv_aload_n hx hb dX0_shortenTo_29 rfl (lv_at hl 1 rfl) ?_
    refine va_get (D := D) (ci := 0) (v := .int pl) (C := RX0) (T := TX0) (N := 4) hx hb hts hi0 hown hK hP k2 hk2 rfl 2 (by decide) f_place (fun _ h9 => h9) rfl dX0_shortenTo_30 ?_
    refine lv_aload_n hx hb dX0_shortenTo_33 rfl (lv_at hl 1 rfl) ?_
    refine va_get (D := D) (ci := 0) (v := va_rf nx) (C := RX0) (T := TX0) (N := 4) hx hb hts hi0 hown hK hP k2 hk2 rfl 3 (by decide) f_next (fun _ h9 => h9) rfl dX0_shortenTo_34 ?_
    refine g_callv (va_runI (As := [.int (nI (f + mo)), .int (nI la), .int pl, va_rf nx]) (rest := [.ref q, .ref a]) ⟨hx, hb, hml, hown, hts⟩ (c_Sinit l D tys X (L ++ [q]) (va_up S q (0, 0, 0, none)) H.size hq1 (va_up_self _ _ _) (f + mo) la pl nx) (cwI 4 hts gX0_shortenTo_X0_init rfl rfl rfl (hts (.initialized RX0) (by decide +kernel)) (hts (.methodLink RX0 27 yX0_init) (by decide +kernel)) (hts (.instanceMethod yX0_init) (by decide +kernel)) rfl (by decide +kernel) ⟨Nat.le_of_ble_eq_true rfl, Nat.le_of_ble_eq_true rfl⟩) (gP_S hP hK hD gBl_T (fun _ _ _ => trivial)) rfl rfl hl.1 rfl (lv_room (Nat.le_of_ble_eq_true rfl)) dX0_shortenTo_37 ⟨Nat.le_of_ble_eq_true rfl, Nat.le_of_ble_eq_true rfl⟩) hD hS hA (fun u H locs _ hP hD hS => ?_)
    rw [bx_uu] at hP hD
    have hSa2 : (va_up S q (f + mo, la, pl, nx)) a = (f, la, pl, nx) := by rw [va_up_ne _ _ hqa]; exact hSa
    obtain ⟨k3, hk30, hk3⟩ := gE_get (X := X) hL1 hSa2
    have hw := gE_put (f := f) (la := la) (pl := pl) (nx := some q) hD hL1 hk30
    refine va_put (D := D) (ci := 0) (v := .ref q) (ty := .object "NumberGoblets$Stretch") (C := RX0) (T := TX0) (N := 4) hx hb hts hi0 tyX0 tyX0_ok nmX0 hown hK hP hD hS k3 hk3 rfl 3 (by decide) f_next (fun _ h9 => h9) rfl (by decide +kernel) rfl rfl (Nat.le_of_ble_eq_true rfl) dX0_shortenTo_40 (fun H locs hP2 hD2 hS => ?_)
    have hP := g_eqP hw hP2
    have hD := g_eqD hw hD2
    obtain ⟨k4, hk40, hk4⟩ := gE_get (X := X) (S := va_up (va_up S q (f + mo, la, pl, nx)) a (f, la, pl, some q)) hL1 (va_up_self _ _ _)
    refine lv_aload_n hx hb dX0_shortenTo_43 rfl (lv_at hl 1 rfl) ?_
    refine lv_iload_n hx hb dX0_shortenTo_44 rfl (lv_at hl 0 rfl) ?_
    have hw := gE_put (f := f) (la := f + mo - 1) (pl := pl) (nx := some q) hD hL1 hk40
    refine va_put (D := D) (ci := 0) (v := .int (nI (f + mo - 1))) (ty := .int) (C := RX0) (T := TX0) (N := 4) hx hb hts hi0 tyX0 tyX0_ok nmX0 hown hK hP hD hS k4 hk4 rfl 1 (by decide) f_last (fun _ h9 => h9) rfl (by decide +kernel) rfl rfl (Nat.le_of_ble_eq_true rfl) dX0_shortenTo_45 (fun H locs hP2 hD2 hS => ?_)
    rw [bx_uu] at hw
    have hP := g_eqP hw hP2
    have hD := g_eqD hw hD2
    exact g_retv hx hb hr hlocks hK q hP hD hS (Nat.le_of_ble_eq_true rfl) (Nat.le_of_ble_eq_true rfl) hq dX0_shortenTo_48
set_option maxHeartbeats 4000000 in
set_option maxRecDepth 100000 in
/-- absorbNextOnesOfSamePlace(): its loop, from its head to the end -/
theorem absorb_loop {p : Program} {l : Launch} {e : Env} {s : State} {m : MethodId} {args : Array Value} {below : List Frame} {meth : Method} {c : Code} {D : va_G} {tys : List (ClassId × FieldType)} {X : va_W} {L : List Nat} {S0 : gS} {P : Nat → Int32} {a f : Nat} {pl : Int32} {nx0 : Option Nat} {R : Room} (hL : a ∈ L) (hx : p.tables.exec = Jvm.exec) (hb : c.code = cX0_absorbNextOnesOfSamePlace) (hr : meth.sig.returnType = none) (hts : ∀ w ∈ wsX0_absorbNextOnesOfSamePlace, w.before args s = true) (hown : s.vm.findClass RX0 = some m.cls) (hlocks : meth.locks = false) (hK : va_K D vwCl tys s) :
    ∀ (n la : Nat) (r : List (Nat × Nat × Int32)) (y : Option Nat) (H : Heap) (locs : List Loc) (ls : Array Slot), 5001 - la < n → gwf P f ((f, la, pl) :: r) → gch L (va_up S0 a (f, la, pl, nx0)) y r → va_P D vwCl (X ++ va_pl L (gE (va_up S0 a (f, la, pl, nx0)))) H → va_D (va_A (X ++ va_pl L (gE S0)) s.heap.size) (X ++ va_pl L (gE (va_up S0 a (f, la, pl, nx0)))) → va_S (va_A (X ++ va_pl L (gE S0)) s.heap.size) s.heap H locs → lv_has ls 2 [(0, .ref a), (1, va_rf y)] →
    W p l e R s m args below meth c H locs 0 0 (MQ below (va_Qv (fun u : Nat × Option Nat => ∃ r', gch L (va_up S0 a (f, u.1, pl, u.2)) u.2 r' ∧ gwf P f ((f, u.1, pl) :: r') ∧ (r' = [] ∨ ¬ P (u.1 + 1) = pl)) (fun u t => gWd D tys (va_A (X ++ va_pl L (gE S0)) s.heap.size) (X ++ va_pl L (gE (va_up S0 a (f, u.1, pl, u.2)))) t) (va_A (X ++ va_pl L (gE S0)) s.heap.size)) args s 0 0 (va_A (X ++ va_pl L (gE S0)) s.heap.size)) (F0 m 5 ls []) := by
  have hi0 := i0_absorb
  have f_last := hts (.fieldLink RX0 13 "NumberGoblets$Stretch" "last" "I") (by decide +kernel)
  have f_place := hts (.fieldLink RX0 16 "NumberGoblets$Stretch" "place" "I") (by decide +kernel)
  have f_next := hts (.fieldLink RX0 19 "NumberGoblets$Stretch" "next" "LNumberGoblets$Stretch;") (by decide +kernel)
  intro n
  induction n with
  | zero => intro la r y H locs ls hn; exact absurd hn (Nat.not_lt_zero _)
  | succ n ih =>
    intro la r y H locs ls hn hw0 hch hP hD hS hl
    obtain ⟨k, hk0, hk⟩ := gE_get (X := X) (S := va_up S0 a (f, la, pl, nx0)) hL (va_up_self _ _ _)
    obtain ⟨z1, z2, z3, z4, z5⟩ := hw0
    have hend : (r = [] ∨ ¬ P (la + 1) = pl) → W p l e R s m args below meth c H locs 0 0 (MQ below (va_Qv (fun u : Nat × Option Nat => ∃ r', gch L (va_up S0 a (f, u.1, pl, u.2)) u.2 r' ∧ gwf P f ((f, u.1, pl) :: r') ∧ (r' = [] ∨ ¬ P (u.1 + 1) = pl)) (fun u t => gWd D tys (va_A (X ++ va_pl L (gE S0)) s.heap.size) (X ++ va_pl L (gE (va_up S0 a (f, u.1, pl, u.2)))) t) (va_A (X ++ va_pl L (gE S0)) s.heap.size)) args s 0 0 (va_A (X ++ va_pl L (gE S0)) s.heap.size)) (F0 m 36 ls []) := by
      intro hfin
      refine lv_aload_n hx hb dX0_absorbNextOnesOfSamePlace_36 rfl (lv_at hl 0 rfl) ?_
      refine lq_aload_n hx hb dX0_absorbNextOnesOfSamePlace_37 rfl (lv_at hl 1 rfl) ?_
      have hw := gE_put (f := f) (la := la) (pl := pl) (nx := y) hD hL hk0
      rw [bx_uu] at hw
      refine va_put (D := D) (ci := 0) (v := va_rf y) (ty := .object "NumberGoblets$Stretch") (C := RX0) (T := TX0) (N := 4) hx hb hts hi0 tyX0 tyX0_ok nmX0 hown hK hP hD hS k hk rfl 3 (by decide) f_next (fun _ h9 => h9) rfl (by decide +kernel) (g_nar y) (g_fit y) (Nat.le_of_ble_eq_true rfl) dX0_absorbNextOnesOfSamePlace_38 (fun H locs hP2 hD2 hS => ?_)
      have hP := g_eqP hw hP2
      have hD := g_eqD hw hD2
      refine g_retv (u := (la, y)) hx hb hr hlocks hK hP hD hS (Nat.le_refl _) (Nat.le_refl _) ⟨r, ?_, ⟨z1, z2, z3, z4, z5⟩, hfin⟩ dX0_absorbNextOnesOfSamePlace_41
      refine gch_frame r (la + 1) y z5 (fun b hb hk => ⟨hb, ?_⟩) hch
      have hba : b ≠ a := fun z => by subst z; rw [va_up_self] at hk; have hk : la + 1 ≤ f := hk; have z2 : f ≤ la := z2; omega
      rw [va_up_ne _ _ hba, va_up_ne _ _ hba]
    refine lq_aload_n hx hb dX0_absorbNextOnesOfSamePlace_5 rfl (lv_at hl 1 rfl) ?_
    refine lq_ifnull (tgt := 36) hx hb dX0_absorbNextOnesOfSamePlace_6 (by decide) (fun cy => ?_) (fun y1 cy => ?_)
    · refine hend ?_
      cases r with
      | nil => exact Or.inl rfl
      | cons d r => obtain ⟨a1, nx1, e1, -⟩ := hch; rw [cy] at e1; cases e1
    · subst cy
      cases r with
      | nil => have hch : some y1 = none := hch; cases hch
      | cons d r =>
        obtain ⟨a1, nx1, e1, e2, e3, e4⟩ := hch
        obtain rfl : y1 = a1 := Option.some.inj e1
        obtain ⟨df, dl, dp⟩ := d
        obtain ⟨x1, x2, x3, x4, x5⟩ := z5
        have x1 : df = la + 1 := x1
        subst x1
        have x2 : la + 1 ≤ dl := x2
        have x3 : dl ≤ 5000 := x3
        have z2 : f ≤ la := z2
        obtain ⟨k1, hk10, hk1⟩ := gE_get (X := X) e2 e3
        refine lv_aload_n hx hb dX0_absorbNextOnesOfSamePlace_9 rfl (lv_at hl 1 rfl) ?_
        refine va_get (D := D) (ci := 0) (v := .int dp) (C := RX0) (T := TX0) (N := 4) hx hb hts hi0 hown hK hP k1 hk1 rfl 2 (by decide) f_place (fun _ h9 => h9) rfl dX0_absorbNextOnesOfSamePlace_10 ?_
        refine lv_aload_n hx hb dX0_absorbNextOnesOfSamePlace_13 rfl (lv_at hl 0 rfl) ?_
        refine va_get (D := D) (ci := 0) (v := .int pl) (C := RX0) (T := TX0) (N := 4) hx hb hts hi0 hown hK hP k hk rfl 2 (by decide) f_place (fun _ h9 => h9) rfl dX0_absorbNextOnesOfSamePlace_14 ?_
        refine lv_icmp_ne (tgt := 36) hx hb dX0_absorbNextOnesOfSamePlace_17 (by decide) (fun cp => ?_) (fun cp => ?_)
        · exact hend (Or.inr (by rw [x4 (la + 1) (Nat.le_refl _) x2]; exact cp))
        · subst cp
          refine lv_aload_n hx hb dX0_absorbNextOnesOfSamePlace_20 rfl (lv_at hl 0 rfl) ?_
          refine lv_aload_n hx hb dX0_absorbNextOnesOfSamePlace_21 rfl (lv_at hl 1 rfl) ?_
          refine va_get (D := D) (ci := 0) (v := .int (nI dl)) (C := RX0) (T := TX0) (N := 4) hx hb hts hi0 hown hK hP k1 hk1 rfl 1 (by decide) f_last (fun _ h9 => h9) rfl dX0_absorbNextOnesOfSamePlace_22 ?_
          have hw := gE_put (f := f) (la := dl) (pl := dp) (nx := nx0) hD hL hk0
          rw [bx_uu] at hw
          refine va_put (D := D) (ci := 0) (v := .int (nI dl)) (ty := .int) (C := RX0) (T := TX0) (N := 4) hx hb hts hi0 tyX0 tyX0_ok nmX0 hown hK hP hD hS k hk rfl 1 (by decide) f_last (fun _ h9 => h9) rfl (by decide +kernel) rfl rfl (Nat.le_of_ble_eq_true rfl) dX0_absorbNextOnesOfSamePlace_25 (fun H locs hP2 hD2 hS => ?_)
          have hP := g_eqP hw hP2
          have hD := g_eqD hw hD2
          have hya : y1 ≠ a := fun z => by subst z; rw [va_up_self] at e3; have := congrArg Prod.fst e3; have this : f = la + 1 := this; omega
          have e5 : va_up S0 a (f, dl, dp, nx0) y1 = (la + 1, dl, dp, nx1) := by rw [va_up_ne _ _ hya]; rw [va_up_ne _ _ hya] at e3; exact e3
          obtain ⟨k2, hk20, hk2⟩ := gE_get (X := X) e2 e5
          refine lv_aload_n hx hb dX0_absorbNextOnesOfSamePlace_28 rfl (lv_at hl 1 rfl) ?_
          refine va_get (D := D) (ci := 0) (v := va_rf nx1) (C := RX0) (T := TX0) (N := 4) hx hb hts hi0 hown hK hP k2 hk2 rfl 3 (by decide) f_next (fun _ h9 => h9) rfl dX0_absorbNextOnesOfSamePlace_29 ?_
          refine lq_astore_n (lv' := [(1, va_rf nx1), (0, .ref a)]) hx hb dX0_absorbNextOnesOfSamePlace_32 rfl hl (by decide) rfl (fun ls hl => ?_)
          refine lv_goto (tgt := 5) hx hb dX0_absorbNextOnesOfSamePlace_33 (by decide) ?_
          refine ih dl r nx1 H locs ls (by omega) ⟨rfl, by show f ≤ dl; omega, x3, fun j h1 h2 => ?_, x5⟩ ?_ hP hD hS (lv_sub hl [1, 0] rfl)
          · by_cases hj : j ≤ la
            · exact z4 j h1 hj
            · exact x4 j (by omega) h2
          · refine gch_frame r (dl + 1) nx1 x5 (fun b hb hk => ⟨hb, ?_⟩) e4
            have hba : b ≠ a := fun z => by subst z; rw [va_up_self] at hk; have hk : dl + 1 ≤ f := hk; omega
            rw [va_up_ne _ _ hba, va_up_ne _ _ hba]
set_option maxHeartbeats 4000000 in
set_option maxRecDepth 100000 in
/-- absorbNextOnesOfSamePlace() -/
theorem c_absorb (l : Launch) (D : va_G) (tys : List (ClassId × FieldType)) (X : va_W) (L : List Nat) (S : gS) (sz : Nat) (P : Nat → Int32) {a f la : Nat} {pl : Int32} {nx : Option Nat} {r : List (Nat × Nat × Int32)} (hL : a ∈ L) (hSa : S a = (f, la, pl, nx)) (hw0 : gwf P f ((f, la, pl) :: r)) (hch : gch L S nx r) : Met l yX0_absorbNextOnesOfSamePlace wsX0_absorbNextOnesOfSamePlace ({ frames := 0, cells := 0, slots := 0, locals := 0 }) (gP D tys [.ref a] (X ++ va_pl L (gE S)) sz (fun _ => True)) (va_Qv (fun u : Nat × Option Nat => ∃ r', gch L (va_up S a (f, u.1, pl, u.2)) u.2 r' ∧ gwf P f ((f, u.1, pl) :: r') ∧ (r' = [] ∨ ¬ P (u.1 + 1) = pl)) (fun u t => gWd D tys (va_A (X ++ va_pl L (gE S)) sz) (X ++ va_pl L (gE (va_up S a (f, u.1, pl, u.2)))) t) (va_A (X ++ va_pl L (gE S)) sz)) 0 0 (va_A (X ++ va_pl L (gE S)) sz) := by
  refine g_ofW (cc := cX0_absorbNextOnesOfSamePlace) (maxL := 2) (ret := none) (by decide) rfl (Nat.le_of_ble_eq_true rfl) ?_
  intro p e s m below meth c hx hb hr hml hts hown hlocks hin hsz hP hK hD hA hS hG ls hl
  subst hsz
  have hown : s.vm.findClass RX0 = some m.cls := hown
  have hl : lv_has ls 2 [(0, .ref a)] := hl
  have hi0 := i0_absorb
  have f_next := hts (.fieldLink RX0 19 "NumberGoblets$Stretch" "next" "LNumberGoblets$Stretch;") (by decide +kernel)
  obtain ⟨k, hk0, hk⟩ := gE_get (X := X) hL hSa
  have hSS : va_up S a (f, la, pl, nx) = S := funext fun b => by by_cases z : b = a; subst z; rw [va_up_self, hSa]; rw [va_up_ne _ _ z]
  refine lv_aload_n hx hb dX0_absorbNextOnesOfSamePlace_0 rfl (lv_at hl 0 rfl) ?_
  refine va_get (D := D) (ci := 0) (v := va_rf nx) (C := RX0) (T := TX0) (N := 4) hx hb hts hi0 hown hK hP k hk rfl 3 (by decide) f_next (fun _ h9 => h9) rfl dX0_absorbNextOnesOfSamePlace_1 ?_
  refine lq_astore_n (lv' := [(1, va_rf nx), (0, .ref a)]) hx hb dX0_absorbNextOnesOfSamePlace_4 rfl hl (by decide) rfl (fun ls hl => ?_)
  exact absorb_loop (nx0 := nx) hL hx hb hr hts hown hlocks hK (5001 - la + 1) la r nx _ _ ls (by omega) hw0 (by rw [hSS]; exact hch) (by rw [hSS]; exact hP) (by rw [hSS]; exact hD) hS (lv_sub hl [1, 0] rfl)
