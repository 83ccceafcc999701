theorem arr_cell {G : GT} {C : AH} {H : Heap} {a κ : Nat} (hr : RepH G C H) (hK : gK C a = κ) (hκ : 20 ≤ κ) : H[a]? = some (arrV (gA G κ) (gN C a) (aV C κ a)) := by
  subst hK
  exact (hr.2.2.2.1 a (by omega)).2.2.2.2 hκ
theorem arr_of {G : GT} {s : State} (hO : GO G) (hW : (gS G).WarmedH s.vm) (κ : Nat) (h1 : 20 ≤ κ) (h2 : κ < 27) (N : Nat) (f : Nat → Value) : s.isArrayOf (arrV (gA G κ) N f) (arT κ) := by
  have hk := va_KG hO hW
  have h : (tysL G)[κ - 20]? = some (gA G κ, arT κ) := by
    rcases (show κ = 20 ∨ κ = 21 ∨ κ = 22 ∨ κ = 23 ∨ κ = 24 ∨ κ = 25 ∨ κ = 26 by omega) with rfl | rfl | rfl | rfl | rfl | rfl | rfl <;> rfl
  exact (hk.2 _ _ h).1 N f
theorem nI_in2 {i : Int32} {j N : Nat} (hi : i = nI j) (hj : j < N) (hN : N < 2147483648) : ¬ (i < 0 ∨ N ≤ i.toNatClampNeg) := by
  subst hi
  exact vp_in_nI hj hN
theorem nI_cl2 {i : Int32} {j N : Nat} (hi : i = nI j) (hj : j < N) (hN : N < 2147483648) : i.toNatClampNeg = j := by
  subst hi
  exact nI_clamp (by omega)
section XA
variable {G : GT} {M : MI} {Q : QT} {X : XT} {k n pc : Nat} {ls : List (Nat × Value)} {st : List Value} {C : AH}
theorem x_iald {a : Nat} {i : Int32} (j N : Nat) (hO : GO G) (d : decode (mB M) pc = .ok (.iaload, 1)) (hK : gK C a = 20) (hi : i = nI j) (hn : gN C a = N) (hj : j < N) (hN : N < 2147483648)
    (kk : Ex G M Q X k n (pc + 1) ls (.int (gI C a j) :: st) C) : Ex G M Q X k n pc ls (.int i :: .ref a :: st) C := by
  intro p l e R s m args below meth c Qf S E H locs cells slots lsA hr hL hc hs hv
  obtain ⟨-, -, hx, hb, -, hown, hW, -⟩ := id S
  have hcell := arr_cell hr hK (by omega)
  refine W.iald hx hb hcell (arr_of hO hW 20 (by omega) (by omega) _ _) (fun h => by cases h) ?_ (v := .int (gI C a j)) ?_ rfl rfl d (kk p l e R s m args below meth c Qf S E H locs cells slots lsA hr hL hc hs hv)
  · rw [arrV_size, hn]; exact nI_in2 hi hj hN
  · rw [nI_cl2 hi hj hN, arrV_read _ _ (by omega)]; rfl
theorem x_zald {a : Nat} {i : Int32} (j N : Nat) (hO : GO G) (d : decode (mB M) pc = .ok (.baload, 1)) (hK : gK C a = 21) (hi : i = nI j) (hn : gN C a = N) (hj : j < N) (hN : N < 2147483648)
    (kk : (gI C a j = 0 ∨ gI C a j = 1) → Ex G M Q X k n (pc + 1) ls (.int (gI C a j) :: st) C) : Ex G M Q X k n pc ls (.int i :: .ref a :: st) C := by
  intro p l e R s m args below meth c Qf S E H locs cells slots lsA hr hL hc hs hv
  obtain ⟨-, -, hx, hb, -, hown, hW, -⟩ := id S
  have hcell := arr_cell hr hK (by omega)
  refine W.zald hx hb hcell (arr_of hO hW 21 (by omega) (by omega) _ _) (fun h => by cases h) ?_ (v := .int (gI C a j)) ?_ rfl rfl d (kk (hr.2.2.2.2 a j (by rw [hK]; rfl)) p l e R s m args below meth c Qf S E H locs cells slots lsA hr hL hc hs hv)
  · rw [arrV_size, hn]; exact nI_in2 hi hj hN
  · rw [nI_cl2 hi hj hN, arrV_read _ _ (by omega)]; rfl
theorem x_cald {a : Nat} {i : Int32} (j N : Nat) (hO : GO G) (d : decode (mB M) pc = .ok (.caload, 1)) (hK : gK C a = 22) (hi : i = nI j) (hn : gN C a = N) (hj : j < N) (hN : N < 2147483648)
    (kk : Ex G M Q X k n (pc + 1) ls (.int (gI C a j) :: st) C) : Ex G M Q X k n pc ls (.int i :: .ref a :: st) C := by
  intro p l e R s m args below meth c Qf S E H locs cells slots lsA hr hL hc hs hv
  obtain ⟨-, -, hx, hb, -, hown, hW, -⟩ := id S
  have hcell := arr_cell hr hK (by omega)
  refine W.cald hx hb hcell (arr_of hO hW 22 (by omega) (by omega) _ _) (fun h => by cases h) ?_ (v := .int (gI C a j)) ?_ rfl rfl d (kk p l e R s m args below meth c Qf S E H locs cells slots lsA hr hL hc hs hv)
  · rw [arrV_size, hn]; exact nI_in2 hi hj hN
  · rw [nI_cl2 hi hj hN, arrV_read _ _ (by omega)]; rfl
theorem x_bald {a : Nat} {i : Int32} (j N : Nat) (hO : GO G) (d : decode (mB M) pc = .ok (.baload, 1)) (hK : gK C a = 23) (hi : i = nI j) (hn : gN C a = N) (hj : j < N) (hN : N < 2147483648)
    (kk : Ex G M Q X k n (pc + 1) ls (.int (gI C a j) :: st) C) : Ex G M Q X k n pc ls (.int i :: .ref a :: st) C := by
  intro p l e R s m args below meth c Qf S E H locs cells slots lsA hr hL hc hs hv
  obtain ⟨-, -, hx, hb, -, hown, hW, -⟩ := id S
  have hcell := arr_cell hr hK (by omega)
  refine W.bald hx hb hcell (arr_of hO hW 23 (by omega) (by omega) _ _) (fun h => by cases h) ?_ (v := .int (gI C a j)) ?_ rfl rfl d (kk p l e R s m args below meth c Qf S E H locs cells slots lsA hr hL hc hs hv)
  · rw [arrV_size, hn]; exact nI_in2 hi hj hN
  · rw [nI_cl2 hi hj hN, arrV_read _ _ (by omega)]; rfl
theorem x_aald {a : Nat} {i : Int32} (κ j N : Nat) (hO : GO G) (d : decode (mB M) pc = .ok (.aaload, 1)) (hK : gK C a = κ) (hκ : κ = 25 ∨ κ = 26) (hi : i = nI j) (hn : gN C a = N) (hj : j < N) (hN : N < 2147483648)
    (kk : Ex G M Q X k n (pc + 1) ls (va_rf (gR C a j) :: st) C) : Ex G M Q X k n pc ls (.int i :: .ref a :: st) C := by
  intro p l e R s m args below meth c Qf S E H locs cells slots lsA hr hL hc hs hv
  obtain ⟨-, -, hx, hb, -, hown, hW, -⟩ := id S
  have hcell := arr_cell hr hK (by omega)
  refine W.aald hx hb hcell (ty := arT κ) (arr_of hO hW κ (by omega) (by omega) _ _) (by rcases hκ with rfl | rfl <;> rfl) (fun h => by cases h) ?_ (v := va_rf (gR C a j)) ?_ rfl rfl d (kk p l e R s m args below meth c Qf S E H locs cells slots lsA hr hL hc hs hv)
  · rw [arrV_size, hn]; exact nI_in2 hi hj hN
  · rw [nI_cl2 hi hj hN, arrV_read _ _ (by omega)]; rcases hκ with rfl | rfl <;> rfl
theorem x_alen {a : Nat} (κ N : Nat) (hO : GO G) (d : decode (mB M) pc = .ok (.arraylength, 1)) (hK : gK C a = κ) (hκ : 20 ≤ κ ∧ κ < 27) (hn : gN C a = N)
    (kk : Ex G M Q X k n (pc + 1) ls (.int (nI N) :: st) C) : Ex G M Q X k n pc ls (.ref a :: st) C := by
  intro p l e R s m args below meth c Qf S E H locs cells slots lsA hr hL hc hs hv
  obtain ⟨-, -, hx, hb, -, hown, hW, -⟩ := id S
  have hcell := arr_cell hr hK (by omega)
  exact W.alen hx hb hcell (arr_of hO hW κ hκ.1 hκ.2 _ _) (by rw [arrV_size, hn]; rfl) rfl rfl d (kk p l e R s m args below meth c Qf S E H locs cells slots lsA hr hL hc hs hv)
theorem x_iast {a : Nat} {i : Int32} {x : Int32} (j N : Nat) (hO : GO G) (d : decode (mB M) pc = .ok (.iastore, 1)) (hK : gK C a = 20) (hi : i = nI j) (hn : gN C a = N) (hj : j < N) (hN : N < 2147483648)
    (kk : Ex G M Q X k n (pc + 1) ls st (wI C (up2 (gI C) a j x))) : Ex G M Q X k n pc ls (.int x :: .int i :: .ref a :: st) C := by
  intro p l e R s m args below meth c Qf S E H locs cells slots lsA hr hL hc hs hv
  obtain ⟨-, -, hx, hb, -, hown, hW, -⟩ := id S
  have hcell := arr_cell hr hK (by omega)
  have hne : gK C a ≠ 0 := by omega
  refine W.iast hx hb hcell (arr_of hO hW 20 (by omega) (by omega) _ _) (fun h => by cases h) ?_ rfl rfl d fun H' e1 e2 e3 => ?_
  · rw [arrV_size, hn]; exact nI_in2 hi hj hN
  · rw [nI_cl2 hi hj hN] at e1 ⊢
    rw [arrV_store] at e1
    refine kk p l e R s m args below meth c Qf S E H' _ cells slots lsA (rep_one hr rfl rfl rfl e2 e3 hne (fun b hb => funext fun j => up2_n fun h => hb h.1) (fun _ _ => rfl) (fun _ _ => rfl) ⟨fun hl => by omega, fun _ => ?_⟩ (fun j9 hj9 => by rw [hK] at hj9; cases hj9)) (HL_app hL (by omega) (fun z hz => ?_)) hc hs hv
    · rw [e1, hK]
      refine congrArg (fun f => some (arrV _ _ f)) (funext fun q => ?_)
      by_cases e : q = j
      · subst e; simp [updV, aV, wI, gI, gJ, up2]
      · simp [updV, aV, wI, gI, gJ, gR, up2, e]
    · rw [List.mem_singleton] at hz
      subst hz
      exact (hr.2.2.2.1 a hne).1
theorem x_zast {a : Nat} {i : Int32} {x : Int32} (j N : Nat) (h01 : x = 0 ∨ x = 1) (hO : GO G) (d : decode (mB M) pc = .ok (.bastore, 1)) (hK : gK C a = 21) (hi : i = nI j) (hn : gN C a = N) (hj : j < N) (hN : N < 2147483648)
    (kk : Ex G M Q X k n (pc + 1) ls st (wI C (up2 (gI C) a j x))) : Ex G M Q X k n pc ls (.int x :: .int i :: .ref a :: st) C := by
  intro p l e R s m args below meth c Qf S E H locs cells slots lsA hr hL hc hs hv
  obtain ⟨-, -, hx, hb, -, hown, hW, -⟩ := id S
  have hcell := arr_cell hr hK (by omega)
  have hne : gK C a ≠ 0 := by omega
  refine W.zast hx hb hcell (arr_of hO hW 21 (by omega) (by omega) _ _) (fun h => by cases h) ?_ rfl rfl d fun H' e1 e2 e3 => ?_
  · rw [arrV_size, hn]; exact nI_in2 hi hj hN
  · rw [nI_cl2 hi hj hN] at e1 ⊢
    rw [show narrow .boolean (.int x) = .int x by rcases h01 with rfl | rfl <;> rfl] at e1
    rw [arrV_store] at e1
    refine kk p l e R s m args below meth c Qf S E H' _ cells slots lsA (rep_one hr rfl rfl rfl e2 e3 hne (fun b hb => funext fun j => up2_n fun h => hb h.1) (fun _ _ => rfl) (fun _ _ => rfl) ⟨fun hl => by omega, fun _ => ?_⟩ (fun j9 hj9 => by
      by_cases e : j9 = j
      · subst e; rw [gI_wI, up2_s]; exact h01
      · rw [gI_wI, up2_n (fun h => e h.2)]; exact hr.2.2.2.2 a j9 hj9)) (HL_app hL (by omega) (fun z hz => ?_)) hc hs hv
    · rw [e1, hK]
      refine congrArg (fun f => some (arrV _ _ f)) (funext fun q => ?_)
      by_cases e : q = j
      · subst e; simp [updV, aV, wI, gI, gJ, up2]
      · simp [updV, aV, wI, gI, gJ, gR, up2, e]
    · rw [List.mem_singleton] at hz
      subst hz
      exact (hr.2.2.2.1 a hne).1
theorem x_cast {a : Nat} {i : Int32} {x : Int32} (j N : Nat) {y : Int32} (hy : narrow .char (.int x) = .int y) (hO : GO G) (d : decode (mB M) pc = .ok (.castore, 1)) (hK : gK C a = 22) (hi : i = nI j) (hn : gN C a = N) (hj : j < N) (hN : N < 2147483648)
    (kk : Ex G M Q X k n (pc + 1) ls st (wI C (up2 (gI C) a j y))) : Ex G M Q X k n pc ls (.int x :: .int i :: .ref a :: st) C := by
  intro p l e R s m args below meth c Qf S E H locs cells slots lsA hr hL hc hs hv
  obtain ⟨-, -, hx, hb, -, hown, hW, -⟩ := id S
  have hcell := arr_cell hr hK (by omega)
  have hne : gK C a ≠ 0 := by omega
  refine W.cast hx hb hcell (arr_of hO hW 22 (by omega) (by omega) _ _) (fun h => by cases h) ?_ rfl rfl d fun H' e1 e2 e3 => ?_
  · rw [arrV_size, hn]; exact nI_in2 hi hj hN
  · rw [nI_cl2 hi hj hN] at e1 ⊢
    rw [hy] at e1
    rw [arrV_store] at e1
    refine kk p l e R s m args below meth c Qf S E H' _ cells slots lsA (rep_one hr rfl rfl rfl e2 e3 hne (fun b hb => funext fun j => up2_n fun h => hb h.1) (fun _ _ => rfl) (fun _ _ => rfl) ⟨fun hl => by omega, fun _ => ?_⟩ (fun j9 hj9 => by rw [hK] at hj9; cases hj9)) (HL_app hL (by omega) (fun z hz => ?_)) hc hs hv
    · rw [e1, hK]
      refine congrArg (fun f => some (arrV _ _ f)) (funext fun q => ?_)
      by_cases e : q = j
      · subst e; simp [updV, aV, wI, gI, gJ, up2]
      · simp [updV, aV, wI, gI, gJ, gR, up2, e]
    · rw [List.mem_singleton] at hz
      subst hz
      exact (hr.2.2.2.1 a hne).1
theorem x_bast {a : Nat} {i : Int32} {x : Int32} (j N : Nat) {y : Int32} (hy : narrow .byte (.int x) = .int y) (hO : GO G) (d : decode (mB M) pc = .ok (.bastore, 1)) (hK : gK C a = 23) (hi : i = nI j) (hn : gN C a = N) (hj : j < N) (hN : N < 2147483648)
    (kk : Ex G M Q X k n (pc + 1) ls st (wI C (up2 (gI C) a j y))) : Ex G M Q X k n pc ls (.int x :: .int i :: .ref a :: st) C := by
  intro p l e R s m args below meth c Qf S E H locs cells slots lsA hr hL hc hs hv
  obtain ⟨-, -, hx, hb, -, hown, hW, -⟩ := id S
  have hcell := arr_cell hr hK (by omega)
  have hne : gK C a ≠ 0 := by omega
  refine W.bast hx hb hcell (arr_of hO hW 23 (by omega) (by omega) _ _) (fun h => by cases h) ?_ rfl rfl d fun H' e1 e2 e3 => ?_
  · rw [arrV_size, hn]; exact nI_in2 hi hj hN
  · rw [nI_cl2 hi hj hN] at e1 ⊢
    rw [hy] at e1
    rw [arrV_store] at e1
    refine kk p l e R s m args below meth c Qf S E H' _ cells slots lsA (rep_one hr rfl rfl rfl e2 e3 hne (fun b hb => funext fun j => up2_n fun h => hb h.1) (fun _ _ => rfl) (fun _ _ => rfl) ⟨fun hl => by omega, fun _ => ?_⟩ (fun j9 hj9 => by rw [hK] at hj9; cases hj9)) (HL_app hL (by omega) (fun z hz => ?_)) hc hs hv
    · rw [e1, hK]
      refine congrArg (fun f => some (arrV _ _ f)) (funext fun q => ?_)
      by_cases e : q = j
      · subst e; simp [updV, aV, wI, gI, gJ, up2]
      · simp [updV, aV, wI, gI, gJ, gR, up2, e]
    · rw [List.mem_singleton] at hz
      subst hz
      exact (hr.2.2.2.1 a hne).1
theorem x_aast {a v : Nat} {i : Int32} (κ j N : Nat) (hO : GO G) (d : decode (mB M) pc = .ok (.aastore, 1)) (hK : gK C a = κ) (hκ : κ = 25 ∧ gK C v = 2 ∨ κ = 26 ∧ gK C v = 3) (hi : i = nI j) (hn : gN C a = N) (hj : j < N) (hN : N < 2147483648)
    (kk : Ex G M Q X k n (pc + 1) ls st (wR C (up2 (gR C) a j (some v)))) : Ex G M Q X k n pc ls (.ref v :: .int i :: .ref a :: st) C := by
  intro p l e R s m args below meth c Qf S E H locs cells slots lsA hr hL hc hs hv
  obtain ⟨-, -, hx, hb, -, hown, hW, -⟩ := id S
  have hcell := arr_cell hr hK (by omega)
  have hne : gK C a ≠ 0 := by omega
  have hk := va_KG hO hW
  have hj' : i.toNatClampNeg = j := nI_cl2 hi hj hN
  have h0 : ¬ i < 0 := fun q => nI_in2 hi hj hN (Or.inl q)
  have hgo : ∀ H' : Heap, H'[a]? = some ((arrV (gA G κ) (gN C a) (aV C κ a)).setSlot i.toNatClampNeg (.ref v)) → H'.size = H.size → (∀ q : Nat, q ≠ a → H'[q]? = H[q]?) → W p l e R s m args below meth c H' (locs ++ [⟨a, i.toNatClampNeg⟩]) cells slots Qf (F0 m (pc + 1) lsA st) := by
    intro H' e1 e2 e3
    rw [hj'] at e1 ⊢
    rw [arrV_store] at e1
    refine kk p l e R s m args below meth c Qf S E H' _ cells slots lsA (rep_one hr rfl rfl rfl e2 e3 hne (fun _ _ => rfl) (fun b hb => funext fun j => up2_n fun h => hb h.1) (fun _ _ => rfl) ⟨fun hl => by omega, fun _ => ?_⟩ (fun j9 hj9 => by rw [hK] at hj9; rcases hκ with ⟨rfl, -⟩ | ⟨rfl, -⟩ <;> cases hj9)) (HL_app hL (by omega) (fun z hz => ?_)) hc hs hv
    · rw [e1, hK]
      refine congrArg (fun f => some (arrV _ _ f)) (funext fun q => ?_)
      have hκ2 : κ ≠ 24 ∧ 25 ≤ κ := by omega
      by_cases e : q = j
      · subst e; simp [updV, aV, wR, gR, up2, hκ2, va_rf]
      · simp [updV, aV, wR, gR, up2, e, hκ2]
    · rw [List.mem_singleton] at hz
      subst hz
      exact (hr.2.2.2.1 a hne).1
  have hin : ¬ i < 0 ∧ i.toNatClampNeg < (arrV (gA G κ) (gN C a) (aV C κ a)).slots.size := ⟨h0, by rw [arrV_size, hj', hn]; exact hj⟩
  rcases hκ with ⟨rfl, hv2⟩ | ⟨rfl, hv2⟩
  · obtain ⟨r, q1, cellV, q2, q3, q4, q5⟩ := (hr.2.2.2.1 v (by omega)).2.2.2.1 (by omega)
    rw [hv2] at q1 q3
    obtain ⟨-, hcls⟩ := hk.1 1 _ rfl
    obtain ⟨kA, comp, k1, k2, k3, -⟩ := (hk.2 5 _ rfl).2
    have hcomp : comp = (gD G).1 1 := Option.some.inj (k3.symm.trans hcls.1)
    subst hcomp
    obtain ⟨kC, hkC, -⟩ := id hcls.2
    exact W.aast hx hb hcell (fun q h => by cases h) (fun h => by cases h) k1 k2 rfl hkC hin q2 (fun q h => by rw [q4] at h; cases h) (by rw [q3]; exact hkC) (by rw [q3]; exact va_assign hcls) rfl rfl d hgo
  · obtain ⟨r, q1, cellV, q2, q3, q4, q5⟩ := (hr.2.2.2.1 v (by omega)).2.2.2.1 (by omega)
    rw [hv2] at q1 q3
    obtain ⟨-, hcls⟩ := hk.1 2 _ rfl
    obtain ⟨kA, comp, k1, k2, k3, -⟩ := (hk.2 6 _ rfl).2
    have hcomp : comp = (gD G).1 2 := Option.some.inj (k3.symm.trans hcls.1)
    subst hcomp
    obtain ⟨kC, hkC, -⟩ := id hcls.2
    exact W.aast hx hb hcell (fun q h => by cases h) (fun h => by cases h) k1 k2 rfl hkC hin q2 (fun q h => by rw [q4] at h; cases h) (by rw [q3]; exact hkC) (by rw [q3]; exact va_assign hcls) rfl rfl d hgo
/-- a new cell at the end -/
theorem rep_new {C : AH} {H H' : Heap} {κ N : Nat} (hr : RepH G C H) (h1 : H'.size = gz C + 1) (h2 : ∀ q : Nat, q < gz C → H'[q]? = H[q]?) (hκ : κ < 27) (hc : cellAt G (wO C κ N) κ (gz C) H') : RepH G (wO C κ N) H' := by
  obtain ⟨g1, g2, g3, g4, g5⟩ := hr
  refine ⟨h1, by show gB G ≤ gz C + 1; omega, fun q hq => by rw [h2 q (by omega)]; exact g3 q hq, fun b hb => ?_, fun b j hbj => ?_⟩
  · by_cases e : b = gz C
    · subst e
      have hk : gK (wO C κ N) (gz C) = κ := if_pos rfl
      rw [hk]
      exact ⟨g2, Nat.lt_succ_self _, hκ, hc⟩
    · have hk : gK (wO C κ N) b = gK C b := if_neg e
      rw [hk] at hb ⊢
      obtain ⟨f1, f2, f3, f4, f5⟩ := g4 b hb
      have hi : gI (wO C κ N) b = gI C b := funext fun j => if_neg e
      have hR : gR (wO C κ N) b = gR C b := funext fun j => if_neg e
      have hJ : gJ (wO C κ N) b = gJ C b := funext fun j => if_neg e
      refine ⟨f1, Nat.lt_succ_of_lt f2, f3, fun hl => ?_, fun hl => ?_⟩
      · obtain ⟨r, r1, r2⟩ := f4 hl
        refine ⟨r, r1, (r2.kept (h2 b f2)).to fun k _ => ?_⟩
        simp only [fV, hi, hR]
      · rw [h2 b f2, f5 hl, show gN (wO C κ N) b = gN C b from if_neg e]
        refine congrArg (fun f => some (arrV _ _ f)) (funext fun j => ?_)
        simp only [aV, hi, hR, hJ]
  · by_cases e : b = gz C
    · subst e
      exact Or.inl (if_pos rfl)
    · rw [show gK (wO C κ N) b = gK C b from if_neg e] at hbj
      rw [show gI (wO C κ N) b j = gI C b j from if_neg e]
      exact g5 b j hbj
def dfO (κ f : Nat) : Value := if isRf κ f = true then .null else .int 0
theorem x_new {idx : Nat} (κ : Nat) {Cn : String} {T : u_T} {N : Nat} (hO : GO G) (d : decode (mB M) pc = .ok (.new idx, 3)) (hκ : 1 ≤ κ ∧ κ < 20) (hcl : vwCl[κ - 1]? = some (Cn, T, N)) (w1 : Cond.classLink (mY M).cls idx Cn ∈ TT) (w2 : Cond.instantiable Cn N ∈ TT) (w3 : Cond.initialized Cn ∈ TT) (hdf : ∀ f : Nat, f < N → defaultValue (tyO κ f) = dfO κ f)
    (hk1 : 1 ≤ k) (hn1 : N ≤ n) (kk : Ex G M Q X (k - 1) (n - N) (pc + 3) ls (.ref (gz C) :: st) (wO C κ 0)) : Ex G M Q X k n pc ls st C := by
  intro p l e R s m args below meth c Qf S E H locs cells slots lsA hr hL hc hs hv
  obtain ⟨-, hR, hx, hb, -, hown, hW, -⟩ := id S
  have hts := hts_G (args := args) hO hW
  have hKn := (va_KG hO hW).1 _ _ hcl
  obtain ⟨hin, -, htys⟩ := hO.2.1 _ _ _ _ hcl
  have hR1 : R.cells = mC M := by rw [hR]; rfl
  have hR2 : R.slots = mS M := by rw [hR]; rfl
  refine W.newcK hx hb hown (hts _ w1) (hts _ w2) (hts _ w3) rfl d (by omega) (by omega) hKn.2.1 hr.1 fun H1 kC hkC e1 z1 o1 => ?_
  refine kk p l e R s m args below meth c Qf S E H1 locs _ _ lsA (rep_new hr z1 o1 (by omega) ⟨fun _ => ⟨_, hcl, (u_born (tyO (κ - 1 + 1)) hts hin hKn hkC e1 htys).to fun j hj => ?_⟩, fun h => by omega⟩) ⟨by have := hL.1; have := hr.1; omega, hL.2⟩ (by omega) (by omega) hv
  have e : κ - 1 + 1 = κ := by omega
  rw [e, hdf j hj]
  unfold dfO fV
  rw [show gR (wO C κ 0) (gz C) j = none from if_pos rfl, show gI (wO C κ 0) (gz C) j = 0 from if_pos rfl]
  rfl
theorem x_newa {at9 : ArrayType} {i : Int32} (κ N : Nat) (hO : GO G) (d : decode (mB M) pc = .ok (.newarray at9, 2)) (hκ : 20 ≤ κ ∧ κ < 25) (hat : newarray.typeOf at9 = arT κ) (w1 : Cond.arrayClass (arT κ) ∈ TT) (hi : i = nI N) (hN : N < 65536) (hk1 : 1 ≤ k) (hn1 : N ≤ n)
    (kk : Ex G M Q X (k - 1) (n - N) (pc + 2) ls (.ref (gz C) :: st) (wO C κ N)) : Ex G M Q X k n pc ls (.int i :: st) C := by
  intro p l e R s m args below meth c Qf S E H locs cells slots lsA hr hL hc hs hv
  obtain ⟨-, hR, hx, hb, -, hown, hW, -⟩ := id S
  have hts := hts_G (args := args) hO hW
  have hR1 : R.cells = mC M := by rw [hR]; rfl
  have hR2 : R.slots = mS M := by rw [hR]; rfl
  subst hi
  have hcb : componentBytes (newarray.typeOf at9) ≤ 8 := by cases at9 <;> decide
  refine va_newaK hx hb (by rw [hat]; exact hts _ w1) rfl d rfl (nI_pos (by omega)) (nI_clamp (by omega)) (Nat.le_trans (Nat.mul_le_mul (Nat.le_of_lt hN) hcb) (by decide)) (by omega) (by omega) hr.1 fun H1 cA e1 z1 o1 hAr hfc => ?_
  have hcA : cA = gA G κ := by
    have hk := va_KG hO hW
    have h : (tysL G)[κ - 20]? = some (gA G κ, arT κ) := by
      rcases (show κ = 20 ∨ κ = 21 ∨ κ = 22 ∨ κ = 23 ∨ κ = 24 by omega) with rfl | rfl | rfl | rfl | rfl <;> rfl
    have h9 := (hk.2 _ _ h).2
    rw [hat] at hfc
    have h10 : s.vm.findClass ("[" ++ (arT κ).toString) = some (gA G κ) := by
      rcases (show κ = 20 ∨ κ = 21 ∨ κ = 22 ∨ κ = 23 ∨ κ = 24 by omega) with rfl | rfl | rfl | rfl | rfl <;> exact h9
    exact Option.some.inj (hfc.symm.trans h10)
  subst hcA
  refine kk p l e R s m args below meth c Qf S E H1 locs _ _ lsA (rep_new hr z1 o1 (by omega) ⟨fun h => by omega, fun _ => ?_⟩) ⟨by have := hL.1; have := hr.1; omega, hL.2⟩ (by omega) (by omega) hv
  rw [e1, show gN (wO C κ N) (gz C) = N from if_pos rfl, hat]
  refine congrArg (fun f => some (arrV _ _ f)) (funext fun j => ?_)
  simp only [aV, show gI (wO C κ N) (gz C) j = 0 from if_pos rfl, show gJ (wO C κ N) (gz C) j = 0 from if_pos rfl]
  rcases (show κ = 20 ∨ κ = 21 ∨ κ = 22 ∨ κ = 23 ∨ κ = 24 by omega) with rfl | rfl | rfl | rfl | rfl <;> rfl
theorem x_anew {idx : Nat} {i : Int32} {Cn : String} (κ N : Nat) (hO : GO G) (d : decode (mB M) pc = .ok (.anewarray idx, 3)) (hκ : κ = 25 ∨ κ = 26) (hat : arT κ = .object Cn) (w1 : Cond.classLink (mY M).cls idx Cn ∈ TT) (w2 : va_AO Cn (gS G)) (hi : i = nI N) (hN : N < 65536) (hk1 : 1 ≤ k) (hn1 : N ≤ n)
    (kk : Ex G M Q X (k - 1) (n - N) (pc + 3) ls (.ref (gz C) :: st) (wO C κ N)) : Ex G M Q X k n pc ls (.int i :: st) C := by
  intro p l e R s m args below meth c Qf S E H locs cells slots lsA hr hL hc hs hv
  obtain ⟨-, hR, hx, hb, -, hown, hW, -⟩ := id S
  have hts := hts_G (args := args) hO hW
  have hR1 : R.cells = mC M := by rw [hR]; rfl
  have hR2 : R.slots = mS M := by rw [hR]; rfl
  subst hi
  have hcl : (nI N).toNatClampNeg = N := nI_clamp (by omega)
  refine W.anew hx hb hown (hts _ w1) (va_AO.use (w2.moved hW.alike)) rfl d rfl (nI_pos (by omega)) (by rw [hcl]; omega) (by omega) (by rw [hcl]; omega) fun cA kA comp f1 f2 f3 f4 => ?_
  rw [hcl]
  generalize hH1 : H.push ({ cls := cA, slots := Array.replicate N .null, vm := .none } : Cell) = H1
  have z1 : H1.size = gz C + 1 := by rw [← hH1, Array.size_push, hr.1]
  have e1 : H1[gz C]? = some (arrV cA N (fun _ => .null)) := by rw [← hH1, ← hr.1, Array.getElem?_push_size, ← arrV_new]
  have o1 : ∀ q : Nat, q < gz C → H1[q]? = H[q]? := fun q hq => by rw [← hH1, Array.getElem?_push, if_neg (by rw [hr.1]; exact Nat.ne_of_lt hq)]
  have hcA : cA = gA G κ := by
    have hk := va_KG hO hW
    rcases hκ with rfl | rfl
    · obtain ⟨-, -, -, -, -, h4⟩ := (hk.2 5 _ rfl).2
      cases hat
      exact Option.some.inj (f1.symm.trans h4)
    · obtain ⟨-, -, -, -, -, h4⟩ := (hk.2 6 _ rfl).2
      cases hat
      exact Option.some.inj (f1.symm.trans h4)
  subst hcA
  rw [hr.1]
  refine kk p l e R s m args below meth c Qf S E H1 locs _ _ lsA (rep_new hr z1 o1 (by omega) ⟨fun h => by omega, fun _ => ?_⟩) ⟨by have := hL.1; have := hr.1; omega, hL.2⟩ (by omega) (by omega) hv
  rw [e1, show gN (wO C κ N) (gz C) = N from if_pos rfl]
  refine congrArg (fun f => some (arrV _ _ f)) (funext fun j => ?_)
  simp only [aV, show gR (wO C κ N) (gz C) j = none from if_pos rfl]
  rcases hκ with rfl | rfl <;> rfl
end XA
