/-! p25: drawn: any int of the script, or one that is made, cut to a range -/
def gXs (w : va_W) (sz b Ls : Nat) (xs : Nat → Int32) (U : State) : Prop := va_X b Ls xs U U.heap ∧ b < U.heap.size ∧ ¬ va_A w sz b
theorem gBl_Xs {w : va_W} {sz b Ls : Nat} {xs : Nat → Int32} : gBl (gXs w sz b Ls xs) := fun U g mk a h => ⟨va_X.moved (u := U) (U := U.calling g mk a) (Vm.Alike.refl U.vm) h.1, h.2⟩
theorem z_half (y : Int32) : (y.toUInt32 >>> ((nI 1).toUInt32 &&& Int32.toUInt32 31)).toInt32 = nI (y.toBitVec.toNat / 2 ^ 1) := by
  apply Int32.toBitVec_inj.mp
  apply BitVec.eq_of_toNat_eq
  have := y.toBitVec.isLt
  rw [pk_ushr _ _ 1 (by decide), pk_tn (by omega)]
set_option maxHeartbeats 4000000 in
set_option maxRecDepth 100000 in
/-- drawn(tape, place, 30000) -/
theorem w_drawn (l : Launch) (D : va_G) (tys : List (ClassId × FieldType)) (w : va_W) (sz : Nat) {b Ls pl : Nat} {xs : Nat → Int32} (hpl : pl < 130) (hLs : Ls ≤ 260) : Met l yL_drawn wsL_drawn ({ frames := 1, cells := 0, slots := 0, locals := 40 } : Room) (gP D tys [.ref b, .int (nI pl), .int (nI 30000)] w sz (gXs w sz b Ls xs)) (va_Qi (fun (r : Int32) (_ : Unit) => ∃ x : Nat, x < 30000 ∧ r = nI x) (fun _ t => gWd D tys (va_A w sz) w t) (va_A w sz)) 0 0 (va_A w sz) := by
  refine g_ofW (cc := cL_drawn) (maxL := 4) (ret := some .int) (by decide) rfl (Nat.le_of_ble_eq_true rfl) ?_
  intro p e s m below meth c hx hb hr hml hts hown hlocks hin hsz hP hK hD hA hS hGG ls hl
  subst hsz
  have hown : s.vm.findClass RL = some m.cls := hown
  obtain ⟨hXs, hbl, hbA⟩ := hGG
  have hl : lv_has ls 4 [(0, .ref b), (1, .int (nI pl)), (2, .int (nI 30000))] := hl
  have hj20 : ∀ (y : Int32) (ls : Array Slot), lv_has ls 4 [(0, .ref b), (1, .int (nI pl)), (2, .int (nI 30000))] → W p l e ({ frames := 1, cells := 0, slots := 0, locals := 40 } : Room) s m ([.ref b, .int (nI pl), .int (nI 30000)] : List Value).toArray below meth c s.heap [] 0 0 (MQ below (va_Qi (fun (r : Int32) (_ : Unit) => ∃ x : Nat, x < 30000 ∧ r = nI x) (fun _ t => gWd D tys (va_A w s.heap.size) w t) (va_A w s.heap.size)) ([.ref b, .int (nI pl), .int (nI 30000)] : List Value).toArray s 0 0 (va_A w s.heap.size)) (F0 m 20 ls [.int y]) := by
    intro y ls hl
    have hy := y.toBitVec.isLt
    refine lv_istore_n (lv' := [(3, .int y), (0, .ref b), (1, .int (nI pl)), (2, .int (nI 30000))]) hx hb dL_drawn_20 rfl hl (by decide) rfl (fun ls hl => ?_)
    refine lv_iload_n hx hb dL_drawn_21 rfl (lv_at hl 0 rfl) ?_
    refine lv_iconst (v := nI 1) hx hb dL_drawn_22 (by decide) ?_
    refine lv_iushr hx hb dL_drawn_23 (z_half y) ?_
    refine lv_iload_n hx hb dL_drawn_24 rfl (lv_at hl 3 rfl) ?_
    refine lv_irem hx hb dL_drawn_25 (by decide) ?_
    refine g_top (y := nI (y.toBitVec.toNat / 2 ^ 1 % 30000)) (pk_rem (by omega) (by omega) (by omega)) ?_
    exact g_reti (wo := fun _ : Unit => w) hx hb hr hlocks hK _ () hP hD hS (Nat.le_refl _) (Nat.le_refl _) ⟨_, Nat.mod_lt _ (by omega), rfl⟩ dL_drawn_26
  refine lv_iload_n hx hb dL_drawn_0 rfl (lv_at hl 1 rfl) ?_
  refine lv_aload_n hx hb dL_drawn_1 rfl (lv_at hl 0 rfl) ?_
  refine va_slen hx hb hXs hbl hbA hS dL_drawn_2 ?_
  refine lv_icmp_ge (tgt := 12) hx hb dL_drawn_3 (by decide) (fun c1 => ?_) (fun c1 => ?_)
  · refine lv_ldc hx hb hown (hts (.constant RL 7 44537) (by decide +kernel)) dL_drawn_12 ?_
    refine lv_iload_n hx hb dL_drawn_14 rfl (lv_at hl 1 rfl) ?_
    refine lv_imul hx hb dL_drawn_15 ?_
    refine lv_sipush (v := nI 7001) hx hb dL_drawn_16 (by decide) ?_
    refine lv_iadd hx hb dL_drawn_19 ?_
    exact hj20 _ ls hl
  · have hlt : pl < Ls := by
      rcases Nat.lt_or_ge pl Ls with z | z
      · exact z
      · exact absurd (show nI Ls ≤ nI pl from nI_le z (by omega)) c1
    refine lv_aload_n hx hb dL_drawn_6 rfl (lv_at hl 0 rfl) ?_
    refine lv_iload_n hx hb dL_drawn_7 rfl (lv_at hl 1 rfl) ?_
    refine va_sld hx hb hXs hbl hbA hS (vp_in_nI hlt (by omega)) dL_drawn_8 ?_
    refine lv_goto (tgt := 20) hx hb dL_drawn_9 (by decide) ?_
    exact hj20 _ ls hl
