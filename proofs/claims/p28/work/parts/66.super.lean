/-! calls of AbstractStringBuilder by a StringBuilder *)-/
section XSB
variable {G : GT} {M : MI} {Q : QT} {X : XT} {k n pc : Nat} {ls : List (Nat × Value)} {st : List Value} {C : AH}
abbrev SBn : String := "java/lang/StringBuilder"
theorem sb_cls {G : GT} {s : State} (hO : GO G) (hW : (gS G).WarmedH s.vm) : ClassAt s SBn ((gD G).1 0) := by
  obtain ⟨-, hfc, kC, hkC, hkind⟩ := (va_KG hO hW).1 0 _ rfl
  exact ⟨hfc, kC, hkC, hkind⟩
theorem x_callU {idx np b : Nat} {Z : MI} {As rest : List Value} (hO : GO G) (d : decode (mB M) pc = .ok (.invokevirtual idx, 3)) (hm : mOk Z np) (hi : Cond.instanceMethod (mY Z) ∈ TT) (hsm : Cond.sameMethod (mY Z).cls (mY Z).cls (mY Z).name (mY Z).desc ∈ TT) (hse : ∀ (s : State) (args : Array Value), (gS G).WarmedH s.vm → (Cond.selects SBn (mY Z) (mY Z)).before args s = true) (hl : Cond.methodLink (mY M).cls idx (mY Z) ∈ TT) (hf : frm M Z) (hK : gK C b = 1)
    (hk : mC Z ≤ k ∧ mS Z ≤ n) (hn : As.length = np) (hst : st = As.reverse ++ .ref b :: rest) (hrest : (rest.map fun v => v.category).sum ≤ 8)
    (hM : Mt G Z (.ref b :: As) C (fun v C' => Ex G M Q X (k - mC Z) (n - mS Z) (pc + 3) ls (v.toList ++ rest) C') X) : Ex G M Q X k n pc ls st C := by
  subst hst
  refine x_run (a := (Value.ref b :: As).toArray) (rest := rest) (Qz := fun v C' => Ex G M Q X (k - mC Z) (n - mS Z) (pc + 3) ls (v.toList ++ rest) C') ?_ hk (fun v C' h => h)
  intro p l e R s m args below meth c S H locs cells slots lsA hr hL hc hs hv
  obtain ⟨hl9, hR, hx, hb, hml, hown, hW, -⟩ := id S
  have hts := hts_G (args := args) hO hW
  have hR1 : R.cells = mC M := by rw [hR]; rfl
  have hR2 : R.slots = mS M := by rw [hR]; rfl
  subst hl9
  subst hR
  exact vx_runU (C := SBn) (owner := (mY Z).cls) ⟨hx, hb, hml, hown, hts⟩ hM ⟨⟨rfl, rfl, hf.1, hf.2, tt_all hO hW hm, List.mem_cons_self⟩, hts _ hm.1, hts _ hm.2.1, hm.2.2.1, mOk_np hm, hts _ hl, hts _ hsm, va_Decl.of (hts _ hi) (hts _ hm.1), hse s args hW, hts _ hi⟩ ⟨bl_O, rcv_O hO hW hr hK ⟨by decide, by decide⟩ rfl, pre_O hW hr⟩ rfl hn hv.1 rfl (lv_room hrest) d (by omega)
theorem x_callSup {idx np b : Nat} {Z : MI} {As rest : List Value} (hO : GO G) (d : decode (mB M) pc = .ok (.invokespecial idx, 3)) (hm : mOk Z np) (hi : Cond.instanceMethod (mY Z) ∈ TT) (hsm : Cond.sameMethod (mY Z).cls (mY Z).cls (mY Z).name (mY Z).desc ∈ TT) (hsu : Cond.superclass (mY M).cls (mY Z).cls ∈ TT) (hno : (mY Z).name ≠ "<init>") (hl : Cond.methodLink (mY M).cls idx (mY Z) ∈ TT) (hf : frm M Z) (hK : gK C b = 1)
    (hk : mC Z ≤ k ∧ mS Z ≤ n) (hn : As.length = np) (hst : st = As.reverse ++ .ref b :: rest) (hrest : (rest.map fun v => v.category).sum ≤ 8)
    (hM : Mt G Z (.ref b :: As) C (fun v C' => Ex G M Q X (k - mC Z) (n - mS Z) (pc + 3) ls (v.toList ++ rest) C') X) : Ex G M Q X k n pc ls st C := by
  subst hst
  refine x_run (a := (Value.ref b :: As).toArray) (rest := rest) (Qz := fun v C' => Ex G M Q X (k - mC Z) (n - mS Z) (pc + 3) ls (v.toList ++ rest) C') ?_ hk (fun v C' h => h)
  intro p l e R s m args below meth c S H locs cells slots lsA hr hL hc hs hv
  obtain ⟨hl9, hR, hx, hb, hml, hown, hW, -⟩ := id S
  have hts := hts_G (args := args) hO hW
  have hR1 : R.cells = mC M := by rw [hR]; rfl
  have hR2 : R.slots = mS M := by rw [hR]; rfl
  subst hl9
  subst hR
  exact vx_runSU (C := SBn) (sb_cls hO hW) ⟨hx, hb, hml, hown, hts⟩ hM ⟨⟨rfl, rfl, hf.1, hf.2, tt_all hO hW hm, List.mem_cons_self⟩, hts _ hl, hts _ hsm, hts _ hsu, hts _ hi, hts _ hm.2.1, hts _ hm.1, hno, mOk_np hm⟩ ⟨bl_O, rcv_O hO hW hr hK ⟨by decide, by decide⟩ rfl, pre_O hW hr⟩ rfl hn hv.1 rfl (lv_room hrest) d (by omega)
theorem tt_of {G : GT} {s : State} {w : Cond} {A args : Array Value} (hg : goodWord w = true) (h : w.before A (gS G) = true) (hW : (gS G).WarmedH s.vm) : w.before args s = true := word_at hW (good_of_word hg) h
/-- a private method is its own choice *)-/
theorem sel_P {n9 : Nat} {y : MethodName} {s : State} {args : Array Value} (hins : (Cond.instantiable SBn n9).before args s = true) (hpriv : (Cond.privateMethod y).before args s = true) (hinst : (Cond.instanceMethod y).before args s = true) (hsame : (Cond.sameMethod y.cls y.cls y.name y.desc).before args s = true) : (Cond.selects SBn y y).before args s = true := by
  obtain ⟨c, k, hc, hk, -, hniab, -, -⟩ := Cond.instantiable_spec hins
  obtain ⟨mk, methM, hnamed, hmethM, -, -⟩ := Cond.instanceMethod_spec hinst
  obtain ⟨cn, ck, r, hcn, hck, hni, hf, hn⟩ := Cond.sameMethod_found hsame
  have hn : s.methodNamed? y = some r := hn
  cases hnamed.symm.trans hn
  have hsel : selectMethod {} s.vm c mk = .method mk := selectMethod_private hmethM (Cond.privateMethod_at hpriv mk methM hnamed hmethM)
  have hcls : mk.cls = cn := Option.some.inj ((findClass_of_methodNamed hnamed).symm.trans hcn)
  simp only [Cond.before, Cond.holds, Cond.value, hc, hf, hnamed, hsel, hcls, hck]
  simp
  exact hni
theorem x_putB {idx a f : Nat} {x : Int32} (κ : Nat) (hO : GO G) (d : decode (mB M) pc = .ok (.putfield idx, 3)) (hF : fS (mY M).cls idx κ f .byte) (hw : fW M κ f) (hK : gK C a = κ) (hκ : 1 ≤ κ ∧ κ < 20) (hi : isRf κ f = false) (hb : isBo κ f = false) (hx : narrow .byte (.int x) = .int x) (hx2 : fits .byte (.int x) = true)
    (kk : Ex G M Q X k n (pc + 3) ls st (wI C (up2 (gI C) a f x))) : Ex G M Q X k n pc ls (.int x :: .ref a :: st) C :=
  x_put κ (wI C (up2 (gI C) a f x)) hO d hF hw hK hκ hx hx2 rfl rfl rfl (fun b hb => funext fun j => up2_n fun h => hb h.1) (fun _ _ => rfl) (fun _ _ => rfl)
    (fun j => by
      by_cases e : j = f
      · subst e; simp [fV, hi, gI_wI, up2_s]
      · simp only [fV, gI_wI, gR_wI, up2_n (fun h : a = a ∧ j = f => e h.2), if_neg e])
    (fun j hj => Or.inl (up2_n fun h => by rw [h.2, hb] at hj; cases hj)) kk
end XSB

theorem sm_append_3fe6f : Cond.sameMethod "java/lang/AbstractStringBuilder" "java/lang/AbstractStringBuilder" "append" "(C)Ljava/lang/AbstractStringBuilder;" ∈ TT := tl 1169 (by decide +kernel) (by decide +kernel)
theorem sm_append_c97b9 : Cond.sameMethod "java/lang/AbstractStringBuilder" "java/lang/AbstractStringBuilder" "append" "(I)Ljava/lang/AbstractStringBuilder;" ∈ TT := tl 1173 (by decide +kernel) (by decide +kernel)
theorem sm_append_cf1ce : Cond.sameMethod "java/lang/AbstractStringBuilder" "java/lang/AbstractStringBuilder" "append" "(Ljava/lang/String;)Ljava/lang/AbstractStringBuilder;" ∈ TT := tl 1174 (by decide +kernel) (by decide +kernel)
theorem sm_length_8abf5 : Cond.sameMethod "java/lang/AbstractStringBuilder" "java/lang/AbstractStringBuilder" "length" "()I" ∈ TT := tl 1178 (by decide +kernel) (by decide +kernel)
theorem sm_charAt_5068e : Cond.sameMethod "java/lang/AbstractStringBuilder" "java/lang/AbstractStringBuilder" "charAt" "(I)C" ∈ TT := tl 1179 (by decide +kernel) (by decide +kernel)
theorem sm_isLatin1_aae02 : Cond.sameMethod "java/lang/AbstractStringBuilder" "java/lang/AbstractStringBuilder" "isLatin1" "()Z" ∈ TT := tl 777 (by decide +kernel) (by decide +kernel)
theorem se_isLatin1_aae02 {G : GT} (hO : GO G) : ∀ (s : State) (args : Array Value), (gS G).WarmedH s.vm → (Cond.selects SBn yJ5_isLatin1_aae02 yJ5_isLatin1_aae02).before args s = true := fun s args hW => hts_G hO hW _ (tl 778 (by decide +kernel) (by decide +kernel))
theorem sm_ensureCapacityInternal_d00df : Cond.sameMethod "java/lang/AbstractStringBuilder" "java/lang/AbstractStringBuilder" "ensureCapacityInternal" "(I)V" ∈ TT := tl 1170 (by decide +kernel) (by decide +kernel)
theorem se_ensureCapacityInternal_d00df {G : GT} (hO : GO G) : ∀ (s : State) (args : Array Value), (gS G).WarmedH s.vm → (Cond.selects SBn yJ5_ensureCapacityInternal_d00df yJ5_ensureCapacityInternal_d00df).before args s = true := fun s args hW => by
  obtain ⟨A, h⟩ := hO.1
  have hh : ∀ w, w ∈ TT → w.before A (gS G) = true := fun w hw => h w (List.mem_filter.mp hw).1
  exact tt_of rfl (sel_P (hh _ in_J4) (h _ (tm 747 (by decide +kernel))) (hh _ i_J5_ensureCapacityInternal_d00df) (hh _ sm_ensureCapacityInternal_d00df)) hW
theorem sm_putStringAt_47b60 : Cond.sameMethod "java/lang/AbstractStringBuilder" "java/lang/AbstractStringBuilder" "putStringAt" "(ILjava/lang/String;)V" ∈ TT := tl 1176 (by decide +kernel) (by decide +kernel)
theorem se_putStringAt_47b60 {G : GT} (hO : GO G) : ∀ (s : State) (args : Array Value), (gS G).WarmedH s.vm → (Cond.selects SBn yJ5_putStringAt_47b60 yJ5_putStringAt_47b60).before args s = true := fun s args hW => by
  obtain ⟨A, h⟩ := hO.1
  have hh : ∀ w, w ∈ TT → w.before A (gS G) = true := fun w hw => h w (List.mem_filter.mp hw).1
  exact tt_of rfl (sel_P (hh _ in_J4) (h _ (tm 867 (by decide +kernel))) (hh _ i_J5_putStringAt_47b60) (hh _ sm_putStringAt_47b60)) hW
theorem sm_inflateIfNeededFor_a7421 : Cond.sameMethod "java/lang/AbstractStringBuilder" "java/lang/AbstractStringBuilder" "inflateIfNeededFor" "(Ljava/lang/String;)V" ∈ TT := tl 1177 (by decide +kernel) (by decide +kernel)
theorem se_inflateIfNeededFor_a7421 {G : GT} (hO : GO G) : ∀ (s : State) (args : Array Value), (gS G).WarmedH s.vm → (Cond.selects SBn yJ5_inflateIfNeededFor_a7421 yJ5_inflateIfNeededFor_a7421).before args s = true := fun s args hW => by
  obtain ⟨A, h⟩ := hO.1
  have hh : ∀ w, w ∈ TT → w.before A (gS G) = true := fun w hw => h w (List.mem_filter.mp hw).1
  exact tt_of rfl (sel_P (hh _ in_J4) (h _ (tm 871 (by decide +kernel))) (hh _ i_J5_inflateIfNeededFor_a7421) (hh _ sm_inflateIfNeededFor_a7421)) hW
theorem su_SB : Cond.superclass "java/lang/StringBuilder" "java/lang/AbstractStringBuilder" ∈ TT := tl 738 (by decide +kernel) (by decide +kernel)
