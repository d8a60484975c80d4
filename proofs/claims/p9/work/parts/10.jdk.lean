set_option maxHeartbeats 4000000 in
set_option maxRecDepth 100000 in
theorem sp_nlz (l : Launch) (k : Nat) (hk : k < 2 ^ 31) : Met l yJ6_numberOfLeadingZeros_0f7a4 (Cond.code yJ6_numberOfLeadingZeros_0f7a4 cJ6_numberOfLeadingZeros_0f7a4 2 (some .int) :: wsL_law) ({ frames := 0, cells := 0, slots := 0, locals := 0 } : Room) (va_Pc [.int (nI k)] (fun _ => True)) (vp_Si (fun r => r = nI (32 - fqbl k))) 0 0 (fun _ => False) := by
  refine Met.ofW (cc := cJ6_numberOfLeadingZeros_0f7a4) (maxL := 2) (ret := (some .int)) (by decide) rfl ?_
  intro p e s m args below meth c s₁ B0 hml hv
  obtain ⟨rfl, -⟩ := hv
  have hx := B0.exec
  have hb := B0.bytes
  have hr := B0.returns
  have hts0 := atoms_spec (ws := (Cond.code yJ6_numberOfLeadingZeros_0f7a4 cJ6_numberOfLeadingZeros_0f7a4 2 (some .int) :: wsL_law)) B0.pre
  have hts := fun w (h : w ∈ wsL_law) => hts0 w (List.mem_cons_of_mem _ h)
  have hown : s.vm.findClass RJ6 = some m.cls := findClass_of_methodNamed B0.named
  have hlocks := B0.notSynchronized
  have hF : CallFix p m c cJ6_numberOfLeadingZeros_0f7a4 2 s ([.int (nI k)] : List Value).toArray wsL_law RJ6 := ⟨hx, hb, hml, hown, hts⟩
  have hl := lv_entry ([.int (nI k)]) (n := 2) (Nat.le_of_ble_eq_true rfl)
  rw [lg_entry_eq]
  generalize (lg_sl ([.int (nI k)]) ++ List.replicate (2 - (lg_sl ([.int (nI k)])).length) Slot.unset).toArray = ls at hl ⊢
  have hl : lv_has ls 2 [(0, .int (nI k))] := hl
  have K73 : ∀ (a k' : Nat) (ls : Array Slot), 0 < k' → k' < 4 → a ≤ 31 → 1 ≤ a → fqbl k = fqbl k' + (31 - a) → lv_has ls 2 [(0, .int (nI k')), (1, .int (nI a))] → W p l e (headSpec (Cond.code yJ6_numberOfLeadingZeros_0f7a4 cJ6_numberOfLeadingZeros_0f7a4 2 (some .int) :: wsL_law) ({ frames := 0, cells := 0, slots := 0, locals := 0 } : Room)).room s m ([.int (nI k)] : List Value).toArray below meth c s.heap [] 0 0 (MQ below (vp_Si (fun r => r = nI (32 - fqbl k))) ([.int (nI k)] : List Value).toArray s 0 0 (fun _ => False)) (F0 m 73 ls []) := by
    intro a k' ls h0 h1 h2 h3 h4 hl
    refine lv_iload_n hx hb dJ6_numberOfLeadingZeros_0f7a4_73 rfl (lv_at hl 1 rfl) ?_
    refine lv_iload_n hx hb dJ6_numberOfLeadingZeros_0f7a4_74 rfl (lv_at hl 0 rfl) ?_
    refine lv_iconst (v := 1) hx hb dJ6_numberOfLeadingZeros_0f7a4_75 (by decide) ?_
    refine lv_iushr (v := nI (k' / 2 ^ 1)) hx hb dJ6_numberOfLeadingZeros_0f7a4_76 (pk_ushrN (n := k') (by omega) 1 1 (by decide)) ?_
    refine lv_isub hx hb dJ6_numberOfLeadingZeros_0f7a4_77 ?_
    have h5 := fqbl_3 h0 h1
    exact fx_sret hx hb hr hlocks dJ6_numberOfLeadingZeros_0f7a4_78 (by show (nI a) - (nI (k' / 2 ^ 1)) = _; rw [show k' / 2 ^ 1 = k' / 2 from rfl, pk_sub (by omega)]; congr 1; omega)
  have K61 : ∀ (a k' : Nat) (ls : Array Slot), 0 < k' → k' < 16 → a ≤ 31 → 3 ≤ a → fqbl k = fqbl k' + (31 - a) → lv_has ls 2 [(0, .int (nI k')), (1, .int (nI a))] → W p l e (headSpec (Cond.code yJ6_numberOfLeadingZeros_0f7a4 cJ6_numberOfLeadingZeros_0f7a4 2 (some .int) :: wsL_law) ({ frames := 0, cells := 0, slots := 0, locals := 0 } : Room)).room s m ([.int (nI k)] : List Value).toArray below meth c s.heap [] 0 0 (MQ below (vp_Si (fun r => r = nI (32 - fqbl k))) ([.int (nI k)] : List Value).toArray s 0 0 (fun _ => False)) (F0 m 61 ls []) := by
    intro a k' ls h0 h1 h2 h3 h4 hl
    refine lv_iload_n hx hb dJ6_numberOfLeadingZeros_0f7a4_61 rfl (lv_at hl 0 rfl) ?_
    refine lv_iconst (v := 4) hx hb dJ6_numberOfLeadingZeros_0f7a4_62 (by decide) ?_
    refine lv_icmp_lt (tgt := 73) hx hb dJ6_numberOfLeadingZeros_0f7a4_63 (by decide) (fun c_63 => ?_) (fun c_63 => ?_)
    · have hlt : k' < 4 := (nI_ltI (by omega) (by decide)).mp (show nI k' < nI 4 from c_63)
      exact K73 a k' ls h0 hlt h2 (by omega) h4 (lv_sub hl [0, 1] rfl)
    · have hge : 4 ≤ k' := Nat.le_of_not_lt fun h9 => c_63 (show nI k' < nI 4 from (nI_ltI (by omega) (by decide)).mpr h9)
      have h5 := fqbl_shift (x := k') (s := 2) (by omega)
      refine lv_iinc (v := nI (a - 2)) (lv' := [(1, .int (nI (a - 2))), (0, .int (nI k'))]) hx hb dJ6_numberOfLeadingZeros_0f7a4_66 hl (k := 1) rfl (fq_dec 2 (by omega) (by decide)) (by decide) rfl (fun ls hl => ?_)
      refine lv_iload_n hx hb dJ6_numberOfLeadingZeros_0f7a4_69 rfl (lv_at hl 1 rfl) ?_
      refine lv_iconst (v := 2) hx hb dJ6_numberOfLeadingZeros_0f7a4_70 (by decide) ?_
      refine lv_iushr (v := nI (k' / 2 ^ 2)) hx hb dJ6_numberOfLeadingZeros_0f7a4_71 (pk_ushrN (n := k') (by omega) 2 2 (by decide)) ?_
      refine lv_istore_n (lv' := [(0, .int (nI (k' / 2 ^ 2))), (1, .int (nI (a - 2)))]) hx hb dJ6_numberOfLeadingZeros_0f7a4_72 rfl hl (by decide) rfl (fun ls hl => ?_)
      exact K73 (a - 2) (k' / 2 ^ 2) ls (Nat.div_pos (by omega) (by decide)) (Nat.div_lt_of_lt_mul (by omega)) (by omega) (by omega) (by omega) (lv_sub hl [0, 1] rfl)
  have K48 : ∀ (a k' : Nat) (ls : Array Slot), 0 < k' → k' < 256 → a ≤ 31 → 7 ≤ a → fqbl k = fqbl k' + (31 - a) → lv_has ls 2 [(0, .int (nI k')), (1, .int (nI a))] → W p l e (headSpec (Cond.code yJ6_numberOfLeadingZeros_0f7a4 cJ6_numberOfLeadingZeros_0f7a4 2 (some .int) :: wsL_law) ({ frames := 0, cells := 0, slots := 0, locals := 0 } : Room)).room s m ([.int (nI k)] : List Value).toArray below meth c s.heap [] 0 0 (MQ below (vp_Si (fun r => r = nI (32 - fqbl k))) ([.int (nI k)] : List Value).toArray s 0 0 (fun _ => False)) (F0 m 48 ls []) := by
    intro a k' ls h0 h1 h2 h3 h4 hl
    refine lv_iload_n hx hb dJ6_numberOfLeadingZeros_0f7a4_48 rfl (lv_at hl 0 rfl) ?_
    refine lv_bipush (v := 16) hx hb dJ6_numberOfLeadingZeros_0f7a4_49 (by decide) ?_
    refine lv_icmp_lt (tgt := 61) hx hb dJ6_numberOfLeadingZeros_0f7a4_51 (by decide) (fun c_51 => ?_) (fun c_51 => ?_)
    · have hlt : k' < 16 := (nI_ltI (by omega) (by decide)).mp (show nI k' < nI 16 from c_51)
      exact K61 a k' ls h0 hlt h2 (by omega) h4 (lv_sub hl [0, 1] rfl)
    · have hge : 16 ≤ k' := Nat.le_of_not_lt fun h9 => c_51 (show nI k' < nI 16 from (nI_ltI (by omega) (by decide)).mpr h9)
      have h5 := fqbl_shift (x := k') (s := 4) (by omega)
      refine lv_iinc (v := nI (a - 4)) (lv' := [(1, .int (nI (a - 4))), (0, .int (nI k'))]) hx hb dJ6_numberOfLeadingZeros_0f7a4_54 hl (k := 1) rfl (fq_dec 4 (by omega) (by decide)) (by decide) rfl (fun ls hl => ?_)
      refine lv_iload_n hx hb dJ6_numberOfLeadingZeros_0f7a4_57 rfl (lv_at hl 1 rfl) ?_
      refine lv_iconst (v := 4) hx hb dJ6_numberOfLeadingZeros_0f7a4_58 (by decide) ?_
      refine lv_iushr (v := nI (k' / 2 ^ 4)) hx hb dJ6_numberOfLeadingZeros_0f7a4_59 (pk_ushrN (n := k') (by omega) 4 4 (by decide)) ?_
      refine lv_istore_n (lv' := [(0, .int (nI (k' / 2 ^ 4))), (1, .int (nI (a - 4)))]) hx hb dJ6_numberOfLeadingZeros_0f7a4_60 rfl hl (by decide) rfl (fun ls hl => ?_)
      exact K61 (a - 4) (k' / 2 ^ 4) ls (Nat.div_pos (by omega) (by decide)) (Nat.div_lt_of_lt_mul (by omega)) (by omega) (by omega) (by omega) (lv_sub hl [0, 1] rfl)
  have K33 : ∀ (a k' : Nat) (ls : Array Slot), 0 < k' → k' < 65536 → a ≤ 31 → 15 ≤ a → fqbl k = fqbl k' + (31 - a) → lv_has ls 2 [(0, .int (nI k')), (1, .int (nI a))] → W p l e (headSpec (Cond.code yJ6_numberOfLeadingZeros_0f7a4 cJ6_numberOfLeadingZeros_0f7a4 2 (some .int) :: wsL_law) ({ frames := 0, cells := 0, slots := 0, locals := 0 } : Room)).room s m ([.int (nI k)] : List Value).toArray below meth c s.heap [] 0 0 (MQ below (vp_Si (fun r => r = nI (32 - fqbl k))) ([.int (nI k)] : List Value).toArray s 0 0 (fun _ => False)) (F0 m 33 ls []) := by
    intro a k' ls h0 h1 h2 h3 h4 hl
    refine lv_iload_n hx hb dJ6_numberOfLeadingZeros_0f7a4_33 rfl (lv_at hl 0 rfl) ?_
    refine lv_sipush (v := 256) hx hb dJ6_numberOfLeadingZeros_0f7a4_34 (by decide) ?_
    refine lv_icmp_lt (tgt := 48) hx hb dJ6_numberOfLeadingZeros_0f7a4_37 (by decide) (fun c_37 => ?_) (fun c_37 => ?_)
    · have hlt : k' < 256 := (nI_ltI (by omega) (by decide)).mp (show nI k' < nI 256 from c_37)
      exact K48 a k' ls h0 hlt h2 (by omega) h4 (lv_sub hl [0, 1] rfl)
    · have hge : 256 ≤ k' := Nat.le_of_not_lt fun h9 => c_37 (show nI k' < nI 256 from (nI_ltI (by omega) (by decide)).mpr h9)
      have h5 := fqbl_shift (x := k') (s := 8) (by omega)
      refine lv_iinc (v := nI (a - 8)) (lv' := [(1, .int (nI (a - 8))), (0, .int (nI k'))]) hx hb dJ6_numberOfLeadingZeros_0f7a4_40 hl (k := 1) rfl (fq_dec 8 (by omega) (by decide)) (by decide) rfl (fun ls hl => ?_)
      refine lv_iload_n hx hb dJ6_numberOfLeadingZeros_0f7a4_43 rfl (lv_at hl 1 rfl) ?_
      refine lv_bipush (v := 8) hx hb dJ6_numberOfLeadingZeros_0f7a4_44 (by decide) ?_
      refine lv_iushr (v := nI (k' / 2 ^ 8)) hx hb dJ6_numberOfLeadingZeros_0f7a4_46 (pk_ushrN (n := k') (by omega) 8 8 (by decide)) ?_
      refine lv_istore_n (lv' := [(0, .int (nI (k' / 2 ^ 8))), (1, .int (nI (a - 8)))]) hx hb dJ6_numberOfLeadingZeros_0f7a4_47 rfl hl (by decide) rfl (fun ls hl => ?_)
      exact K48 (a - 8) (k' / 2 ^ 8) ls (Nat.div_pos (by omega) (by decide)) (Nat.div_lt_of_lt_mul (by omega)) (by omega) (by omega) (by omega) (lv_sub hl [0, 1] rfl)
  have K18 : ∀ (a k' : Nat) (ls : Array Slot), 0 < k' → k' < 2147483648 → a ≤ 31 → 31 ≤ a → fqbl k = fqbl k' + (31 - a) → lv_has ls 2 [(0, .int (nI k')), (1, .int (nI a))] → W p l e (headSpec (Cond.code yJ6_numberOfLeadingZeros_0f7a4 cJ6_numberOfLeadingZeros_0f7a4 2 (some .int) :: wsL_law) ({ frames := 0, cells := 0, slots := 0, locals := 0 } : Room)).room s m ([.int (nI k)] : List Value).toArray below meth c s.heap [] 0 0 (MQ below (vp_Si (fun r => r = nI (32 - fqbl k))) ([.int (nI k)] : List Value).toArray s 0 0 (fun _ => False)) (F0 m 18 ls []) := by
    intro a k' ls h0 h1 h2 h3 h4 hl
    refine lv_iload_n hx hb dJ6_numberOfLeadingZeros_0f7a4_18 rfl (lv_at hl 0 rfl) ?_
    refine lv_ldcw (v := 65536) hx hb hown (hts _ km_91) dJ6_numberOfLeadingZeros_0f7a4_19 ?_
    refine lv_icmp_lt (tgt := 33) hx hb dJ6_numberOfLeadingZeros_0f7a4_22 (by decide) (fun c_22 => ?_) (fun c_22 => ?_)
    · have hlt : k' < 65536 := (nI_ltI (by omega) (by decide)).mp (show nI k' < nI 65536 from c_22)
      exact K33 a k' ls h0 hlt h2 (by omega) h4 (lv_sub hl [0, 1] rfl)
    · have hge : 65536 ≤ k' := Nat.le_of_not_lt fun h9 => c_22 (show nI k' < nI 65536 from (nI_ltI (by omega) (by decide)).mpr h9)
      have h5 := fqbl_shift (x := k') (s := 16) (by omega)
      refine lv_iinc (v := nI (a - 16)) (lv' := [(1, .int (nI (a - 16))), (0, .int (nI k'))]) hx hb dJ6_numberOfLeadingZeros_0f7a4_25 hl (k := 1) rfl (fq_dec 16 (by omega) (by decide)) (by decide) rfl (fun ls hl => ?_)
      refine lv_iload_n hx hb dJ6_numberOfLeadingZeros_0f7a4_28 rfl (lv_at hl 1 rfl) ?_
      refine lv_bipush (v := 16) hx hb dJ6_numberOfLeadingZeros_0f7a4_29 (by decide) ?_
      refine lv_iushr (v := nI (k' / 2 ^ 16)) hx hb dJ6_numberOfLeadingZeros_0f7a4_31 (pk_ushrN (n := k') (by omega) 16 16 (by decide)) ?_
      refine lv_istore_n (lv' := [(0, .int (nI (k' / 2 ^ 16))), (1, .int (nI (a - 16)))]) hx hb dJ6_numberOfLeadingZeros_0f7a4_32 rfl hl (by decide) rfl (fun ls hl => ?_)
      exact K33 (a - 16) (k' / 2 ^ 16) ls (Nat.div_pos (by omega) (by decide)) (Nat.div_lt_of_lt_mul (by omega)) (by omega) (by omega) (by omega) (lv_sub hl [0, 1] rfl)
  refine lv_iload_n hx hb dJ6_numberOfLeadingZeros_0f7a4_0 rfl (lv_at hl 0 rfl) ?_
  refine lv_if_gt (tgt := 15) hx hb dJ6_numberOfLeadingZeros_0f7a4_1 (by decide) (fun c_1 => ?_) (fun c_1 => ?_)
  · have c_1 : 0 < k := Nat.pos_of_ne_zero fun h9 => by subst h9; exact absurd c_1 (by decide)
    refine lv_bipush (v := 31) hx hb dJ6_numberOfLeadingZeros_0f7a4_15 (by decide) ?_
    refine lv_istore_n (lv' := [(1, .int 31), (0, .int (nI k))]) hx hb dJ6_numberOfLeadingZeros_0f7a4_17 rfl hl (by decide) rfl (fun ls hl => ?_)
    exact K18 31 k ls c_1 hk (Nat.le_refl _) (Nat.le_refl _) (by omega) (lv_sub hl [1, 0] rfl)
  · have h0 : k = 0 := by
      rcases Nat.eq_zero_or_pos k with q | q
      · exact q
      · exact absurd ((nI_ltI (by decide) hk).mpr q) c_1
    subst h0
    refine lv_iload_n hx hb dJ6_numberOfLeadingZeros_0f7a4_4 rfl (lv_at hl 0 rfl) ?_
    refine lv_if_ne (tgt := 13) hx hb dJ6_numberOfLeadingZeros_0f7a4_5 (by decide) (fun c_5 => ?_) (fun c_5 => ?_)
    · exact absurd rfl c_5
    · refine lv_bipush (v := 32) hx hb dJ6_numberOfLeadingZeros_0f7a4_8 (by decide) ?_
      refine lv_goto (tgt := 14) hx hb dJ6_numberOfLeadingZeros_0f7a4_10 (by decide) ?_
      exact fx_sret hx hb hr hlocks dJ6_numberOfLeadingZeros_0f7a4_14 (rfl)
set_option maxHeartbeats 4000000 in
set_option maxRecDepth 100000 in
theorem sp_fill (l : Launch) (dC : Nat → ClassId) (dI : Nat → Nat → Nat) (A : Nat → Prop) (cI cA cZ : ClassId) (ws : va_W) (q0 a len : Nat) (f : Nat → Int32) (v : Int32) (ha : ws[q0]? = some (a, .inl (cI, len, .inl f))) (hlen : len < 2 ^ 31) : Met l yJ7_fill_53178 (Cond.code yJ7_fill_53178 cJ7_fill_53178 4 none :: wsL_law) ({ frames := 0, cells := 0, slots := 0, locals := 0 } : Room) (va_Pc [.ref a, .int v] (fx_Pre (dC, dI) classes (fq_ty cI cA cZ) A ws)) (va_Qv (S := (Nat → Int32)) (fun u => u = fqfill len v f) (fx_B (dC, dI) classes (fq_ty cI cA cZ) A (fun u => ws.set q0 (a, .inl (cI, len, .inl u)))) A) 0 0 A := by
  refine Met.ofW (cc := cJ7_fill_53178) (maxL := 4) (ret := none) (by decide) rfl ?_
  intro p e s m args below meth c s₁ B0 hml hv
  obtain ⟨rfl, hA, hP, hK, hD, hN⟩ := hv
  have hx := B0.exec
  have hb := B0.bytes
  have hr := B0.returns
  have hts0 := atoms_spec (ws := (Cond.code yJ7_fill_53178 cJ7_fill_53178 4 none :: wsL_law)) B0.pre
  have hts := fun w (h : w ∈ wsL_law) => hts0 w (List.mem_cons_of_mem _ h)
  have hown : s.vm.findClass RJ7 = some m.cls := findClass_of_methodNamed B0.named
  have hlocks := B0.notSynchronized
  have hF : CallFix p m c cJ7_fill_53178 4 s ([.ref a, .int v] : List Value).toArray wsL_law RJ7 := ⟨hx, hb, hml, hown, hts⟩
  have hS : va_S A s.heap s.heap [] := va_S.rf
  have hl := lv_entry ([.ref a, .int v]) (n := 4) (Nat.le_of_ble_eq_true rfl)
  rw [lg_entry_eq]
  generalize (lg_sl ([.ref a, .int v]) ++ List.replicate (4 - (lg_sl ([.ref a, .int v])).length) Slot.unset).toArray = ls at hl ⊢
  have hl : lv_has ls 4 [(0, .ref a), (1, .int v)] := hl
  refine lv_iconst (v := 0) hx hb dJ7_fill_53178_0 (by decide) ?_
  refine lv_istore_n (lv' := [(2, .int 0), (0, .ref a), (1, .int v)]) hx hb dJ7_fill_53178_1 rfl hl (by decide) rfl (fun ls hl => ?_)
  refine lv_aload_n hx hb dJ7_fill_53178_2 rfl (lv_at hl 1 rfl) ?_
  refine va_alen (v := nI len) hx hb hK hP q0 0 ha rfl rfl dJ7_fill_53178_3 ?_
  refine lv_istore_n (lv' := [(3, .int (nI len)), (2, .int 0), (0, .ref a), (1, .int v)]) hx hb dJ7_fill_53178_4 rfl hl (by decide) rfl (fun ls hl => ?_)
  have K : ∀ (d i : Nat) (H : Heap) (locs : List Loc) (ls : Array Slot), i ≤ len → len - i < d → va_P (dC, dI) classes (ws.set q0 (a, .inl (cI, len, .inl (fun j => if j < i then v else f j)))) H → va_D A (ws.set q0 (a, .inl (cI, len, .inl (fun j => if j < i then v else f j)))) → va_S A s.heap H locs → lv_has ls 4 [(0, .ref a), (1, .int v), (2, .int (nI i)), (3, .int (nI len))] → W p l e (headSpec (Cond.code yJ7_fill_53178 cJ7_fill_53178 4 none :: wsL_law) ({ frames := 0, cells := 0, slots := 0, locals := 0 } : Room)).room s m ([.ref a, .int v] : List Value).toArray below meth c H locs 0 0 (MQ below (va_Qv (S := (Nat → Int32)) (fun u => u = fqfill len v f) (fx_B (dC, dI) classes (fq_ty cI cA cZ) A (fun u => ws.set q0 (a, .inl (cI, len, .inl u)))) A) ([.ref a, .int v] : List Value).toArray s 0 0 A) (F0 m 5 ls []) := by
    intro d
    induction d with
    | zero => intro i H locs ls _ h; omega
    | succ d ih =>
      intro i H locs ls hi hd hP hD hS hl
      have hq : (ws.set q0 (a, .inl (cI, len, .inl (fun j => if j < i then v else f j))))[q0]? = some (a, .inl (cI, len, .inl (fun j => if j < i then v else f j))) := List.getElem?_set_self (List.getElem?_eq_some_iff.mp ha).1
      refine lv_iload_n hx hb dJ7_fill_53178_5 rfl (lv_at hl 2 rfl) ?_
      refine lv_iload_n hx hb dJ7_fill_53178_6 rfl (lv_at hl 3 rfl) ?_
      refine lv_icmp_ge (tgt := 20) hx hb dJ7_fill_53178_7 (by decide) (fun c_7 => ?_) (fun c_7 => ?_)
      · have e1 : i = len := Nat.le_antisymm hi ((nI_leI hlen (by omega)).mp c_7)
        have e2 : (fun j => if j < i then v else f j) = fqfill len v f := by rw [e1]; rfl
        rw [e2] at hP hD
        exact fx_vret hx hb hr hlocks hK hS dJ7_fill_53178_20 (fqfill len v f) rfl hP hD
      · have h1 : i < len := Nat.lt_of_not_le fun h9 => c_7 ((nI_leI hlen (by omega)).mpr h9)
        refine lv_aload_n hx hb dJ7_fill_53178_10 rfl (lv_at hl 0 rfl) ?_
        refine lv_iload_n hx hb dJ7_fill_53178_11 rfl (lv_at hl 2 rfl) ?_
        refine lv_iload_n hx hb dJ7_fill_53178_12 rfl (lv_at hl 1 rfl) ?_
        refine fx_ast hx hb hK hP hD hS q0 0 hq rfl i rfl h1 hlen dJ7_fill_53178_13 (fun H locs hP hD hS => ?_)
        have e2 : upd (fun j => if j < i then v else f j) i v = (fun j => if j < i + 1 then v else f j) := by
          funext j
          show (if j = i then v else if j < i then v else f j) = if j < i + 1 then v else f j
          by_cases h2 : j = i
          · subst h2; simp
          · by_cases h3 : j < i
            · rw [if_neg h2, if_pos h3, if_pos (by omega)]
            · rw [if_neg h2, if_neg h3, if_neg (by omega)]
        rw [List.set_set, e2] at hP hD
        refine lv_iinc (v := nI (i + 1)) (lv' := [(2, .int (nI (i + 1))), (0, .ref a), (1, .int v), (3, .int (nI len))]) hx hb dJ7_fill_53178_14 hl (k := 2) rfl (nI_1 i) (by decide) rfl (fun ls hl => ?_)
        refine lv_goto (tgt := 5) hx hb dJ7_fill_53178_17 (by decide) ?_
        exact ih (i + 1) H locs ls (by omega) (by omega) hP hD hS (lv_sub hl [1, 2, 0, 3] rfl)
  have e0 : ws.set q0 (a, .inl (cI, len, .inl (fun j => if j < 0 then v else f j))) = ws := by
    have e1 : (fun j => if j < 0 then v else f j) = f := by funext j; simp
    rw [e1]
    exact fq_setself ha
  exact K (len + 1) 0 s.heap [] ls (Nat.zero_le _) (by omega) (by rw [e0]; exact hP) (by rw [e0]; exact hD) hS (lv_sub hl [2, 3, 1, 0] rfl)
