section XW
variable {G : GT} {M : MI} {Q : QT} {X : XT} {k n pc : Nat} {ls : List (Nat × Value)} {st : List Value} {C : AH}
/-- throw new E("text"), a wide index -/
theorem x_throwSW {ik is ic sa : Nat} {cls text : String} {names : List String} (hO : GO G) (hX9 : eX G) (d0 : decode (mB M) pc = .ok (.new ik, 3)) (d3 : decode (mB M) (pc + 3) = .ok (.dup, 1)) (d4 : decode (mB M) (pc + 4) = .ok (.ldc_w is, 3)) (d7 : decode (mB M) (pc + 7) = .ok (.invokespecial ic, 3)) (d10 : decode (mB M) (pc + 10) = .ok (.athrow, 1))
    (hcls : Bundle.fit cls = true) (hnames : ∀ n ∈ names, Bundle.fit n = true) (w1 : Cond.classLink (mY M).cls ik cls ∈ TT) (w2 : Cond.initialized cls ∈ TT) (hstr : eR G (mY M).cls is text sa) (hg1 : ∀ w ∈ (vx_atS (mY M).cls ic cls names).filter goodWord, w ∈ TT) (B : List Cond) (hg2 : ∀ w ∈ (vx_atS (mY M).cls ic cls names).filter (fun w => !goodWord w), w ∈ B) (hB : ∀ (s : State) (args : Array Value), (gS G).WarmedH s.vm → ∀ w ∈ B, w.before args s = true)
    (hgood : ∀ w ∈ Cond.classLink (mY M).cls ik cls :: Cond.initialized cls :: vx_atS (mY M).cls ic cls names, vx_ot w = true)
    (hrest : (st.map fun v => v.category).sum ≤ 8) (hf : names.length + 3 < mF M ∧ 8 + (13 * (names.length + 1) + 43) ≤ mO M) (hk : 1 ≤ k ∧ 6 ≤ n)
    (hx : ∀ z : Nat, gz C ≤ z → X cls (wZ C z)) : Ex G M Q X k n pc ls st C := by
  intro p l e R s m args below meth c Qf S E H locs cells slots lsA hr hL hc hs hv
  obtain ⟨hl, hR, hx9, hb, hml, hown, hW, hlk, -, -, hbig, hlow⟩ := id S
  have hts := hts_G (args := args) hO hW
  rcases E.2 with hno | ⟨htab, Qc, XC, rfl, hXC⟩
  · exact absurd (hx (gz C) (Nat.le_refl _)) (hno _ _)
  · have hR1 : R.cells = mC M := by rw [hR]; rfl
    have hR2 : R.slots = mS M := by rw [hR]; rfl
    have hR3 : R.frames = mF M := by rw [hR]; rfl
    have hR4 : R.locals = mO M := by rw [hR]; rfl
    have hsz := hr.1
    refine vx_throwSW hx9 hb (by rw [hl]; exact hX9.1) hown hcls hnames (hts _ w1) (hts _ w2) (vk_R.warm hW hstr) (vx_hat (fun w hw => hts w (hg1 w hw)) hg2 (hB s args hW)) hgood ((vx_Zq.moved hW.alike hX9.2.1).kept (kp_O hlow)) ((vx_Zq.moved hW.alike hX9.2.2).kept (kp_O hlow)) (S_O hr hL hlow) (by rw [hml]; exact hv.1) d0 d3 d4 d7 d10 (fun x hx => absurd hx (fun h => htab x h)) (by omega) (by omega) (by omega) (by omega) hlk ?_ hL.2 (by omega) (by omega)
    intro t _ h1 h2
    refine hXC cls (wZ C t.heap.size) t (hx _ (by omega)) ?_ (by have := hL.1; omega)
    obtain ⟨g1, g2, g3, g4, g5⟩ := hr
    refine ⟨rfl, by show gB G ≤ t.heap.size; omega, fun q hq => by rw [h2 q (by omega)]; exact g3 q hq, fun a ha => ?_, g5⟩
    obtain ⟨f1, f2, f3, f4, f5⟩ := g4 a ha
    refine ⟨f1, by show a < t.heap.size; have : a < gz C := f2; omega, f3, fun hl => ?_, fun hl => ?_⟩
    · obtain ⟨r, r1, r2⟩ := f4 hl
      exact ⟨r, r1, r2.kept (h2 a (by rw [hsz]; exact f2))⟩
    · rw [h2 a (by rw [hsz]; exact f2)]
      exact f5 hl

end XW
abbrev nmsX : List String := ["java/lang/RuntimeException", "java/lang/Exception"]
def dcl : List Cond := [.declares ⟨"java/lang/RuntimeException", "<init>", "(Ljava/lang/String;)V"⟩, .declares ⟨"java/lang/Exception", "<init>", "(Ljava/lang/String;)V"⟩, .declares ⟨"java/lang/Throwable", "<init>", "(Ljava/lang/String;)V"⟩, .castable "java/lang/IllegalArgumentException" "java/lang/IllegalArgumentException", .castable "java/lang/IllegalStateException" "java/lang/IllegalStateException", .castable "java/lang/IndexOutOfBoundsException" "java/lang/IndexOutOfBoundsException"]
theorem dcl_ok {G : GT} (hO : GO G) : ∀ (s : State) (args : Array Value), (gS G).WarmedH s.vm → ∀ w ∈ dcl, w.before args s = true := by
  intro s args hW w hw
  obtain ⟨A, h⟩ := hO.1
  simp only [dcl, List.mem_cons, List.not_mem_nil, or_false] at hw
  rcases hw with rfl | rfl | rfl | rfl | rfl | rfl
  · exact va_Nw.use rfl (va_Nw.warmD hW (va_Nw.of rfl (h _ (tm 328 (by decide +kernel)))))
  · exact va_Nw.use rfl (va_Nw.warmD hW (va_Nw.of rfl (h _ (tm 330 (by decide +kernel)))))
  · exact va_Nw.use rfl (va_Nw.warmD hW (va_Nw.of rfl (h _ (tm 332 (by decide +kernel)))))
  · exact va_Nw.use rfl (va_Nw.warmC hW (va_Nw.of rfl (h _ (tm 609 (by decide +kernel)))))
  · exact va_Nw.use rfl (va_Nw.warmC hW (va_Nw.of rfl (h _ (tm 326 (by decide +kernel)))))
  · exact va_Nw.use rfl (va_Nw.warmC hW (va_Nw.of rfl (h _ (tm 557 (by decide +kernel)))))
theorem nms_fit : ∀ n ∈ nmsX, Bundle.fit n = true := by decide +kernel
theorem g1_mem {L : List Cond} (h : ∀ w ∈ L.filter goodWord, w ∈ lw_tbl) : ∀ w ∈ L.filter goodWord, w ∈ TT := fun w hw => List.mem_filter.mpr ⟨h w hw, (List.mem_filter.mp hw).2⟩
theorem fit_56 : Bundle.fit "java/lang/IllegalStateException" = true := by decide +kernel
theorem g1_56 : ∀ w ∈ (vx_atS RX4 56 "java/lang/IllegalStateException" nmsX).filter goodWord, w ∈ TT := g1_mem (by decide +kernel)
theorem g2_56 : ∀ w ∈ (vx_atS RX4 56 "java/lang/IllegalStateException" nmsX).filter (fun w => !goodWord w), w ∈ dcl := by decide +kernel
theorem gd_56 (ik : Nat) : ∀ w ∈ Cond.classLink RX4 ik "java/lang/IllegalStateException" :: Cond.initialized "java/lang/IllegalStateException" :: vx_atS RX4 56 "java/lang/IllegalStateException" nmsX, vx_ot w = true := by
  intro w hw
  rcases List.mem_cons.mp hw with rfl | hw
  · rfl
  rcases List.mem_cons.mp hw with rfl | hw
  · rfl
  · exact (show ∀ w ∈ vx_atS RX4 56 "java/lang/IllegalStateException" nmsX, vx_ot w = true by decide +kernel) w hw
theorem fit_167 : Bundle.fit "java/lang/IndexOutOfBoundsException" = true := by decide +kernel
theorem g1_167 : ∀ w ∈ (vx_atS RX4 167 "java/lang/IndexOutOfBoundsException" nmsX).filter goodWord, w ∈ TT := g1_mem (by decide +kernel)
theorem g2_167 : ∀ w ∈ (vx_atS RX4 167 "java/lang/IndexOutOfBoundsException" nmsX).filter (fun w => !goodWord w), w ∈ dcl := by decide +kernel
theorem gd_167 (ik : Nat) : ∀ w ∈ Cond.classLink RX4 ik "java/lang/IndexOutOfBoundsException" :: Cond.initialized "java/lang/IndexOutOfBoundsException" :: vx_atS RX4 167 "java/lang/IndexOutOfBoundsException" nmsX, vx_ot w = true := by
  intro w hw
  rcases List.mem_cons.mp hw with rfl | hw
  · rfl
  rcases List.mem_cons.mp hw with rfl | hw
  · rfl
  · exact (show ∀ w ∈ vx_atS RX4 167 "java/lang/IndexOutOfBoundsException" nmsX, vx_ot w = true by decide +kernel) w hw
theorem fit_181 : Bundle.fit "java/lang/IllegalArgumentException" = true := by decide +kernel
theorem g1_181 : ∀ w ∈ (vx_atS RX4 181 "java/lang/IllegalArgumentException" nmsX).filter goodWord, w ∈ TT := g1_mem (by decide +kernel)
theorem g2_181 : ∀ w ∈ (vx_atS RX4 181 "java/lang/IllegalArgumentException" nmsX).filter (fun w => !goodWord w), w ∈ dcl := by decide +kernel
theorem gd_181 (ik : Nat) : ∀ w ∈ Cond.classLink RX4 ik "java/lang/IllegalArgumentException" :: Cond.initialized "java/lang/IllegalArgumentException" :: vx_atS RX4 181 "java/lang/IllegalArgumentException" nmsX, vx_ot w = true := by
  intro w hw
  rcases List.mem_cons.mp hw with rfl | hw
  · rfl
  rcases List.mem_cons.mp hw with rfl | hw
  · rfl
  · exact (show ∀ w ∈ vx_atS RX4 181 "java/lang/IllegalArgumentException" nmsX, vx_ot w = true by decide +kernel) w hw
