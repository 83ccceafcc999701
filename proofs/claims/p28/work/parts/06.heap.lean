theorem gz_wI {C : AH} {f : Nat → Nat → Int32} : gz (wI C f) = gz C := rfl
theorem gK_wI {C : AH} {f : Nat → Nat → Int32} : gK (wI C f) = gK C := rfl
theorem gN_wI {C : AH} {f : Nat → Nat → Int32} : gN (wI C f) = gN C := rfl
theorem gI_wI {C : AH} {f : Nat → Nat → Int32} : gI (wI C f) = f := rfl
theorem gR_wI {C : AH} {f : Nat → Nat → Int32} : gR (wI C f) = gR C := rfl
theorem gJ_wI {C : AH} {f : Nat → Nat → Int32} : gJ (wI C f) = gJ C := rfl
theorem wI_wI {C : AH} {f g : Nat → Nat → Int32} : wI (wI C f) g = wI C g := rfl
theorem wI_self {C : AH} : wI C (gI C) = C := rfl
theorem up2_s {α : Type} {f : Nat → Nat → α} {a k : Nat} {v : α} : up2 f a k v a k = v := if_pos ⟨rfl, rfl⟩
theorem up2_n {α : Type} {f : Nat → Nat → α} {a k b j : Nat} {v : α} (h : ¬ (b = a ∧ j = k)) : up2 f a k v b j = f b j := if_neg h
/-- one cell has changed, its kind and length not -/
theorem rep_one {G : GT} {C C' : AH} {H H' : Heap} {a : Nat} (hr : RepH G C H) (hz : gz C' = gz C) (hK : gK C' = gK C) (hN : gN C' = gN C) (hsz : H'.size = H.size) (ho : ∀ q : Nat, q ≠ a → H'[q]? = H[q]?) (ha : gK C a ≠ 0)
    (hI : ∀ b : Nat, b ≠ a → gI C' b = gI C b) (hR : ∀ b : Nat, b ≠ a → gR C' b = gR C b) (hJ : ∀ b : Nat, b ≠ a → gJ C' b = gJ C b) (hc : cellAt G C' (gK C a) a H') (hb : ∀ k : Nat, isBo (gK C a) k = true → gI C' a k = 0 ∨ gI C' a k = 1) : RepH G C' H' := by
  obtain ⟨h1, h2, h3, h4, h5⟩ := hr
  refine ⟨by rw [hsz, hz]; exact h1, by rw [hz]; exact h2, fun q hq => ?_, fun b hb9 => ?_, fun b k hbk => ?_⟩
  · rw [ho q (by have := (h4 a ha).1; omega)]
    exact h3 q hq
  · rw [hK] at hb9 ⊢
    by_cases e : b = a
    · subst e
      exact ⟨(h4 b hb9).1, by rw [hz]; exact (h4 b hb9).2.1, (h4 b hb9).2.2.1, hc⟩
    · obtain ⟨g1, g2, g3, g4, g5⟩ := h4 b hb9
      refine ⟨g1, by rw [hz]; exact g2, g3, fun hl => ?_, fun hl => ?_⟩
      · obtain ⟨r, r1, r2⟩ := g4 hl
        refine ⟨r, r1, (r2.kept (ho b e)).to fun k _ => ?_⟩
        simp only [fV, hI b e, hR b e]
      · rw [ho b e, g5 hl, hN]
        refine congrArg (fun f => some (arrV _ _ f)) (funext fun j => ?_)
        simp only [aV, hI b e, hR b e, hJ b e]
  · rw [hK] at hbk
    by_cases e : b = a
    · subst e
      exact hb k hbk
    · rw [hI b e]
      exact h5 b k hbk
/-- fields: own class and pool index, the kind, the place, its type -/
def fS (own : String) (idx κ f : Nat) (ty : FieldType) : Prop := ∃ (Cn : String) (T : u_T) (N : Nat), vwCl[κ - 1]? = some (Cn, T, N) ∧ f < N ∧ Cond.fieldLink own idx (T f).1 (T f).2.1 (T f).2.2.1 ∈ TT ∧ parseFieldDescriptor (T f).2.2.1 = some ty
/-- a field that may be stored here: not final, or in its class's constructor -/
def fW (M : MI) (κ f : Nat) : Prop := ∀ (Cn : String) (T : u_T) (N : Nat), vwCl[κ - 1]? = some (Cn, T, N) → (T f).2.2.2 = false ∨ ((T f).2.2.2 = true ∧ (mY M).name = "<init>" ∧ (T f).1 = (mY M).cls)
def tyO (κ f : Nat) : FieldType := match κ with
  | 1 => tyJ4 f
  | 2 => tyX0 f
  | 3 => tyX1 f
  | 4 => tyX2 f
  | 5 => tyX3 f
  | 6 => tyX4 f
  | _ => tyX4 f
def clOk : Prop := ∀ (ci : Nat) (Cn : String) (T : u_T) (N : Nat), vwCl[ci]? = some (Cn, T, N) → (∀ w ∈ u_ws Cn T N, w ∈ TT) ∧ (∀ a, a < N → ∀ b, b < N → a ≠ b → (T a).2.1 ≠ (T b).2.1) ∧ (∀ k, k < N → parseFieldDescriptor (T k).2.2.1 = some (tyO (ci + 1) k))
/-- the standing facts: the tables' words, the classes -/
def GO (G : GT) : Prop := GW G ∧ clOk ∧ va_K (gD G) vwCl (tysL G) (gS G)
theorem va_KG {G : GT} {s : State} (hO : GO G) (hW : (gS G).WarmedH s.vm) : va_K (gD G) vwCl (tysL G) s := hO.2.2.moved hW.alike
theorem hts_G {G : GT} {s : State} {args : Array Value} (hO : GO G) (hW : (gS G).WarmedH s.vm) : ∀ w ∈ TT, w.before args s = true := fun _ hw => tt_use hO.1 hw hW
section XH
variable {G : GT} {M : MI} {Q : QT} {X : XT} {k n pc : Nat} {ls : List (Nat × Value)} {st : List Value} {C : AH}
theorem x_get {idx a f : Nat} {ty : FieldType} (κ : Nat) {v : Value} (hO : GO G) (d : decode (mB M) pc = .ok (.getfield idx, 3)) (hF : fS (mY M).cls idx κ f ty) (hK : gK C a = κ) (hκ : 1 ≤ κ ∧ κ < 20) (hv9 : fV C κ a f = v)
    (kk : Ex G M Q X k n (pc + 3) ls (v :: st) C) : Ex G M Q X k n pc ls (.ref a :: st) C := by
  intro p l e R s m args below meth c Qf S E H locs cells slots lsA hr hL hc hs hv
  obtain ⟨-, -, hx, hb, -, hown, hW, -⟩ := id S
  obtain ⟨Cn, T, N, h1, h2, h3, h4⟩ := hF
  have hts := hts_G (args := args) hO hW
  obtain ⟨-, -, g3, g4, -⟩ := hr.2.2.2.1 a (by omega)
  obtain ⟨r, q1, cell, q2, q3, q4, q5⟩ := g4 (by omega)
  rw [hK] at q1 q3 q5
  cases q1.symm.trans h1
  obtain ⟨hS, hfc, kC, hkC, hkind⟩ := (va_KG hO hW).1 (κ - 1) _ h1
  obtain ⟨cf, kf, fi, fd, hi, hsl⟩ := hS f h2
  refine W.getf hx hb hown (hts _ h3) hi (u_facts hfc hkC (u_lays hts (hO.2.1 _ _ _ _ h1).1 h2) hi).1 q2 (by rw [q4]; exact fun h => by cases h) (v := v) ?_ rfl rfl d (kk p l e R s m args below meth c Qf S E H locs cells slots lsA hr hL hc hs hv)
  rw [hsl, q5 f h2]
  exact congrArg some hv9
/-- a boolean field: 0 or 1 -/
theorem x_getZ {idx a f : Nat} {ty : FieldType} (κ : Nat) (hO : GO G) (d : decode (mB M) pc = .ok (.getfield idx, 3)) (hF : fS (mY M).cls idx κ f ty) (hK : gK C a = κ) (hκ : 1 ≤ κ ∧ κ < 20) (hz : isBo κ f = true) (hv9 : fV C κ a f = .int (gI C a f))
    (kk : (gI C a f = 0 ∨ gI C a f = 1) → Ex G M Q X k n (pc + 3) ls (.int (gI C a f) :: st) C) : Ex G M Q X k n pc ls (.ref a :: st) C := by
  intro p l e R s m args below meth c Qf S E H locs cells slots lsA hr hL hc hs hv
  exact x_get κ hO d hF hK hκ hv9 (kk (hr.2.2.2.2 a f (by rw [hK]; exact hz))) p l e R s m args below meth c Qf S E H locs cells slots lsA hr hL hc hs hv
theorem x_put {idx a f : Nat} {ty : FieldType} (κ : Nat) {v : Value} (C' : AH) (hO : GO G) (d : decode (mB M) pc = .ok (.putfield idx, 3)) (hF : fS (mY M).cls idx κ f ty) (hw : fW M κ f) (hK : gK C a = κ) (hκ : 1 ≤ κ ∧ κ < 20)
    (hn : narrow ty v = v) (hfit : fits ty v = true) (hz : gz C' = gz C) (hK' : gK C' = gK C) (hN' : gN C' = gN C) (hI : ∀ b : Nat, b ≠ a → gI C' b = gI C b) (hR : ∀ b : Nat, b ≠ a → gR C' b = gR C b) (hJ : ∀ b : Nat, b ≠ a → gJ C' b = gJ C b)
    (hv9 : ∀ j : Nat, fV C' κ a j = if j = f then v else fV C κ a j) (hb9 : ∀ j : Nat, isBo κ j = true → (gI C' a j = gI C a j ∨ gI C' a j = 0 ∨ gI C' a j = 1))
    (kk : Ex G M Q X k n (pc + 3) ls st C') : Ex G M Q X k n pc ls (v :: .ref a :: st) C := by
  intro p l e R s m args below meth c Qf S E H locs cells slots lsA hr hL hc hs hv
  obtain ⟨-, -, hx, hb, -, hown, hW, -, -, hnm, -⟩ := id S
  obtain ⟨Cn, T, N, h1, h2, h3, h4⟩ := hF
  have hts := hts_G (args := args) hO hW
  have hne : gK C a ≠ 0 := by omega
  obtain ⟨g1, -, g3, g4, -⟩ := hr.2.2.2.1 a hne
  obtain ⟨r, q1, cell, q2, q3, q4, q5⟩ := g4 (by omega)
  rw [hK] at q1 q3 q5
  cases q1.symm.trans h1
  obtain ⟨hin, hnm2, htys⟩ := hO.2.1 _ _ _ _ h1
  obtain ⟨hS, hfc, kC, hkC, hkind⟩ := (va_KG hO hW).1 (κ - 1) _ h1
  obtain ⟨cf, kf, fi, fd, hi, hsl⟩ := hS f h2
  have hap := va_apart (own := (mY M).cls) hts hin (tyO (κ - 1 + 1)) htys hnm2 (va_KG hO hW) h1
  have hlay := hts _ (hin _ (u_in_lay h2))
  have hst := (u_facts hfc hkC (u_lays hts hin h2) hi).1
  have go : ∀ H' : Heap, H'[a]? = some (cell.setSlot fd.slot v) → H'.size = H.size → (∀ q : Nat, q ≠ a → H'[q]? = H[q]?) → W p l e R s m args below meth c H' (locs ++ [⟨a, fd.slot⟩]) cells slots Qf (F0 m (pc + 3) lsA st) := by
    intro H' e1 e2 e3
    rw [hsl] at e1
    refine kk p l e R s m args below meth c Qf S E H' _ cells slots lsA (rep_one hr hz hK' hN' e2 e3 hne hI hR hJ ⟨fun _ => ⟨_, by rw [hK]; exact h1, cell.setSlot ((gD G).2 (κ - 1) f) v, e1, by rw [hK]; exact q3, q4, fun j hj => ?_⟩, fun hl => by omega⟩ (fun j hj => ?_)) (HL_app hL (by omega) (fun z hz => ?_)) hc hs hv
    · rw [hK]
      rw [t_set q5 hap h2 v j hj, hv9 j]
      rfl
    · rw [hK] at hj
      rcases hb9 j hj with e | e | e
      · rw [e]
        exact hr.2.2.2.2 a j (by rw [hK]; exact hj)
      · exact Or.inl e
      · exact Or.inr e
    · rw [List.mem_singleton] at hz
      subst hz
      exact g1
  unfold u_lay at hlay
  rcases hw _ _ _ h1 with hf0 | ⟨hf1, hf2, hf3⟩
  · rw [if_neg (by rw [hf0]; decide)] at hlay
    exact W.putK hx hb (f := fd) ⟨hown, hts _ h3, ⟨_, _, _, hi⟩, hst⟩ (by rw [q3]; exact u_store hfc hkC hkind hlay hi h4 hn hfit) q2 q4 (by rw [hsl]; exact k2_hasslot (q5 f h2)) rfl rfl d go
  · rw [if_pos hf1] at hlay
    have hcf : m.cls = cf := by
      obtain ⟨_, _, c', _, _, _, -, -, hf', -, -, -, hown2, -⟩ := Cond.laysFinal_spec hlay
      have e1 : c' = cf := by have := hi.symm.trans hf'; simp at this; exact this.1.symm
      rw [hf3] at hown2
      rw [← e1]; exact Option.some.inj (hown.symm.trans hown2)
    exact W.putFinK hx hb hown (hts _ h3) hi hst hcf (hnm.trans hf2) (by rw [q3]; exact u_fits hfc hkC hkind (Or.inr hlay) hi h4 hn hfit) q2 q4 (by rw [hsl]; exact k2_hasslot (q5 f h2)) rfl rfl d go
theorem x_putI {idx a f : Nat} {x : Int32} (κ : Nat) (hO : GO G) (d : decode (mB M) pc = .ok (.putfield idx, 3)) (hF : fS (mY M).cls idx κ f .int) (hw : fW M κ f) (hK : gK C a = κ) (hκ : 1 ≤ κ ∧ κ < 20) (hi : isRf κ f = false) (hb : isBo κ f = false)
    (kk : Ex G M Q X k n (pc + 3) ls st (wI C (up2 (gI C) a f x))) : Ex G M Q X k n pc ls (.int x :: .ref a :: st) C :=
  x_put κ (wI C (up2 (gI C) a f x)) hO d hF hw hK hκ rfl rfl rfl rfl rfl (fun b hb => funext fun j => up2_n fun h => hb h.1) (fun _ _ => rfl) (fun _ _ => rfl)
    (fun j => by
      by_cases e : j = f
      · subst e; simp [fV, hi, gI_wI, up2_s]
      · simp only [fV, gI_wI, gR_wI, up2_n (fun h : a = a ∧ j = f => e h.2), if_neg e])
    (fun j hj => Or.inl (up2_n fun h => by rw [h.2, hb] at hj; cases hj)) kk
theorem x_putZ {idx a f : Nat} {x : Int32} (κ : Nat) (hO : GO G) (d : decode (mB M) pc = .ok (.putfield idx, 3)) (hF : fS (mY M).cls idx κ f .boolean) (hw : fW M κ f) (hK : gK C a = κ) (hκ : 1 ≤ κ ∧ κ < 20) (hi : isRf κ f = false) (h01 : x = 0 ∨ x = 1)
    (kk : Ex G M Q X k n (pc + 3) ls st (wI C (up2 (gI C) a f x))) : Ex G M Q X k n pc ls (.int x :: .ref a :: st) C :=
  x_put κ (wI C (up2 (gI C) a f x)) hO d hF hw hK hκ (by rcases h01 with rfl | rfl <;> rfl) (by rcases h01 with rfl | rfl <;> rfl) rfl rfl rfl (fun b hb => funext fun j => up2_n fun h => hb h.1) (fun _ _ => rfl) (fun _ _ => rfl)
    (fun j => by
      by_cases e : j = f
      · subst e; simp [fV, hi, gI_wI, up2_s]
      · simp only [fV, gI_wI, gR_wI, up2_n (fun h : a = a ∧ j = f => e h.2), if_neg e])
    (fun j hj => by
      by_cases e : j = f
      · subst e; rw [gI_wI, up2_s]; exact Or.inr h01
      · exact Or.inl (up2_n fun h => e h.2)) kk
theorem x_putR {idx a f : Nat} {r : Option Nat} {ty : FieldType} (κ : Nat) (hO : GO G) (d : decode (mB M) pc = .ok (.putfield idx, 3)) (hF : fS (mY M).cls idx κ f ty) (hw : fW M κ f) (hK : gK C a = κ) (hκ : 1 ≤ κ ∧ κ < 20) (hi : isRf κ f = true) (hn : narrow ty (va_rf r) = va_rf r) (hfit : fits ty (va_rf r) = true)
    (kk : Ex G M Q X k n (pc + 3) ls st (wR C (up2 (gR C) a f r))) : Ex G M Q X k n pc ls (va_rf r :: .ref a :: st) C :=
  x_put κ (wR C (up2 (gR C) a f r)) hO d hF hw hK hκ hn hfit rfl rfl rfl (fun _ _ => rfl) (fun b hb => funext fun j => up2_n fun h => hb h.1) (fun _ _ => rfl)
    (fun j => by
      by_cases e : j = f
      · subst e; rw [if_pos rfl, fV, if_pos hi]; exact congrArg va_rf up2_s
      · rw [if_neg e]; simp only [fV]; rw [show gR (wR C (up2 (gR C) a f r)) a j = gR C a j from up2_n fun h => e h.2]; rfl)
    (fun j _ => Or.inl rfl) kk
end XH
