theorem lk_mem {i : Nat} {v : Value} {ls : List (Nat × Value)} (h : List.lookup i ls = some v) : (i, v) ∈ ls := by
  induction ls with
  | nil => simp at h
  | cons q t ih =>
    obtain ⟨j, w⟩ := q
    rw [List.lookup_cons] at h
    by_cases e : i = j
    · subst e
      simp at h
      subst h
      exact List.mem_cons_self
    · have : (i == j) = false := by simpa using e
      rw [this] at h
      exact List.mem_cons_of_mem _ (ih h)
def lst1 (i : Nat) (v : Value) (ls : List (Nat × Value)) : List (Nat × Value) := (i, v) :: ls.filter (fun q => !(q.1 == i) && !(q.1 + 1 == i && q.2.category == 2))
def lst2 (i : Nat) (v : Value) (ls : List (Nat × Value)) : List (Nat × Value) := (i, v) :: ls.filter (fun q => !(q.1 == i) && (!(q.1 == i + 1) && !(q.1 + 1 == i && q.2.category == 2)))
def lsub (ls : List (Nat × Value)) : List (Nat × Value) → Prop
  | [] => True
  | q :: t => List.lookup q.1 ls = some q.2 ∧ lsub ls t
theorem lsub_mem {ls l2 : List (Nat × Value)} (h : lsub ls l2) : ∀ q ∈ l2, q ∈ ls := by
  induction l2 with
  | nil => intro q hq; cases hq
  | cons a t ih =>
    intro q hq
    rcases List.mem_cons.mp hq with rfl | hq
    · exact lk_mem h.1
    · exact ih h.2 q hq
theorem tt_use {G : GT} {s : State} {w : Cond} {args : Array Value} (hG : GW G) (hw : w ∈ TT) (hW : (gS G).WarmedH s.vm) : w.before args s = true := by
  obtain ⟨A, h⟩ := hG
  obtain ⟨h1, h2⟩ := List.mem_filter.mp hw
  exact word_at hW (good_of_word h2) (h w h1)
section XS
variable {G : GT} {M : MI} {Q : QT} {X : XT} {k n pc : Nat} {ls : List (Nat × Value)} {st : List Value} {C : AH}
theorem x_ls (l2 : List (Nat × Value)) (h : lsub ls l2) (kk : Ex G M Q X k n pc l2 st C) : Ex G M Q X k n pc ls st C := by
  intro p l e R s m args below meth c Qf S E H locs cells slots lsA hr hL hc hs hv
  exact kk p l e R s m args below meth c Qf S E H locs cells slots lsA hr hL hc hs ⟨hv.1, hv.2.1, fun q hq => hv.2.2 q (lsub_mem h q hq)⟩
theorem x_iconst {j : Int} {v : Int32} (d : decode (mB M) pc = .ok (.iconst j, 1)) (h : Int32.ofInt j = v) (kk : Ex G M Q X k n (pc + 1) ls (.int v :: st) C) : Ex G M Q X k n pc ls (st) C := by
  intro p l e R s m args below meth c Qf S E H locs cells slots lsA hr hL hc hs hv
  obtain ⟨-, -, hx, hb, -⟩ := id S
  exact lv_iconst hx hb d h (kk p l e R s m args below meth c Qf S E H locs cells slots lsA hr hL hc hs hv)
theorem x_bipush {j : Int} {v : Int32} (d : decode (mB M) pc = .ok (.bipush j, 2)) (h : (Int8.ofInt j).toInt32 = v) (kk : Ex G M Q X k n (pc + 2) ls (.int v :: st) C) : Ex G M Q X k n pc ls (st) C := by
  intro p l e R s m args below meth c Qf S E H locs cells slots lsA hr hL hc hs hv
  obtain ⟨-, -, hx, hb, -⟩ := id S
  exact lv_bipush hx hb d h (kk p l e R s m args below meth c Qf S E H locs cells slots lsA hr hL hc hs hv)
theorem x_sipush {j : Int} {v : Int32} (d : decode (mB M) pc = .ok (.sipush j, 3)) (h : (Int16.ofInt j).toInt32 = v) (kk : Ex G M Q X k n (pc + 3) ls (.int v :: st) C) : Ex G M Q X k n pc ls (st) C := by
  intro p l e R s m args below meth c Qf S E H locs cells slots lsA hr hL hc hs hv
  obtain ⟨-, -, hx, hb, -⟩ := id S
  exact lv_sipush hx hb d h (kk p l e R s m args below meth c Qf S E H locs cells slots lsA hr hL hc hs hv)
theorem x_lconst {j : Fin 2} {v : Int64} (d : decode (mB M) pc = .ok (.lconst j, 1)) (h : Int64.ofNat (j : Nat) = v) (kk : Ex G M Q X k n (pc + 1) ls (.long v :: st) C) : Ex G M Q X k n pc ls (st) C := by
  intro p l e R s m args below meth c Qf S E H locs cells slots lsA hr hL hc hs hv
  obtain ⟨-, -, hx, hb, -⟩ := id S
  exact lv_lconst hx hb d h (kk p l e R s m args below meth c Qf S E H locs cells slots lsA hr hL hc hs hv)
theorem x_null  (d : decode (mB M) pc = .ok (.aconst_null, 1)) (kk : Ex G M Q X k n (pc + 1) ls (.null :: st) C) : Ex G M Q X k n pc ls (st) C := by
  intro p l e R s m args below meth c Qf S E H locs cells slots lsA hr hL hc hs hv
  obtain ⟨-, -, hx, hb, -⟩ := id S
  exact lv_null hx hb d (kk p l e R s m args below meth c Qf S E H locs cells slots lsA hr hL hc hs hv)
theorem x_iload_n {j : Fin 4} {x : Int32} (d : decode (mB M) pc = .ok (.iload_n j, 1)) (h : List.lookup (j : Nat) ls = some (.int x)) (kk : Ex G M Q X k n (pc + 1) ls (.int x :: st) C) : Ex G M Q X k n pc ls (st) C := by
  intro p l e R s m args below meth c Qf S E H locs cells slots lsA hr hL hc hs hv
  obtain ⟨-, -, hx, hb, -⟩ := id S
  exact lv_iload_n hx hb d rfl (hv.2.2 _ (lk_mem h)) (kk p l e R s m args below meth c Qf S E H locs cells slots lsA hr hL hc hs hv)
theorem x_iload {j : Nat} {x : Int32} (d : decode (mB M) pc = .ok (.iload j, 2)) (h : List.lookup j ls = some (.int x)) (kk : Ex G M Q X k n (pc + 2) ls (.int x :: st) C) : Ex G M Q X k n pc ls (st) C := by
  intro p l e R s m args below meth c Qf S E H locs cells slots lsA hr hL hc hs hv
  obtain ⟨-, -, hx, hb, -⟩ := id S
  exact lv_iload hx hb d (hv.2.2 _ (lk_mem h)) (kk p l e R s m args below meth c Qf S E H locs cells slots lsA hr hL hc hs hv)
theorem x_lload_n {j : Fin 4} {x : Int64} (d : decode (mB M) pc = .ok (.lload_n j, 1)) (h : List.lookup (j : Nat) ls = some (.long x)) (kk : Ex G M Q X k n (pc + 1) ls (.long x :: st) C) : Ex G M Q X k n pc ls (st) C := by
  intro p l e R s m args below meth c Qf S E H locs cells slots lsA hr hL hc hs hv
  obtain ⟨-, -, hx, hb, -⟩ := id S
  exact lv_lload_n hx hb d rfl (hv.2.2 _ (lk_mem h)) (kk p l e R s m args below meth c Qf S E H locs cells slots lsA hr hL hc hs hv)
theorem x_lload {j : Nat} {x : Int64} (d : decode (mB M) pc = .ok (.lload j, 2)) (h : List.lookup j ls = some (.long x)) (kk : Ex G M Q X k n (pc + 2) ls (.long x :: st) C) : Ex G M Q X k n pc ls (st) C := by
  intro p l e R s m args below meth c Qf S E H locs cells slots lsA hr hL hc hs hv
  obtain ⟨-, -, hx, hb, -⟩ := id S
  exact lv_lload hx hb d (hv.2.2 _ (lk_mem h)) (kk p l e R s m args below meth c Qf S E H locs cells slots lsA hr hL hc hs hv)
theorem x_aload_n {j : Fin 4} {x : Nat} (d : decode (mB M) pc = .ok (.aload_n j, 1)) (h : List.lookup (j : Nat) ls = some (.ref x)) (kk : Ex G M Q X k n (pc + 1) ls (.ref x :: st) C) : Ex G M Q X k n pc ls (st) C := by
  intro p l e R s m args below meth c Qf S E H locs cells slots lsA hr hL hc hs hv
  obtain ⟨-, -, hx, hb, -⟩ := id S
  exact lv_aload_n hx hb d rfl (hv.2.2 _ (lk_mem h)) (kk p l e R s m args below meth c Qf S E H locs cells slots lsA hr hL hc hs hv)
theorem x_aload {j : Nat} {x : Nat} (d : decode (mB M) pc = .ok (.aload j, 2)) (h : List.lookup j ls = some (.ref x)) (kk : Ex G M Q X k n (pc + 2) ls (.ref x :: st) C) : Ex G M Q X k n pc ls (st) C := by
  intro p l e R s m args below meth c Qf S E H locs cells slots lsA hr hL hc hs hv
  obtain ⟨-, -, hx, hb, -⟩ := id S
  exact lv_aload hx hb d (hv.2.2 _ (lk_mem h)) (kk p l e R s m args below meth c Qf S E H locs cells slots lsA hr hL hc hs hv)
theorem x_aload_nQ {j : Fin 4} {r : Option Nat} (d : decode (mB M) pc = .ok (.aload_n j, 1)) (h : List.lookup (j : Nat) ls = some (va_rf r)) (kk : Ex G M Q X k n (pc + 1) ls (va_rf r :: st) C) : Ex G M Q X k n pc ls st C := by
  intro p l e R s m args below meth c Qf S E H locs cells slots lsA hr hL hc hs hv
  obtain ⟨-, -, hx, hb, -⟩ := id S
  cases r with
  | none => exact lv_aload_nN hx hb d rfl (hv.2.2 _ (lk_mem h)) (kk p l e R s m args below meth c Qf S E H locs cells slots lsA hr hL hc hs hv)
  | some a => exact lv_aload_n hx hb d rfl (hv.2.2 _ (lk_mem h)) (kk p l e R s m args below meth c Qf S E H locs cells slots lsA hr hL hc hs hv)
theorem x_aloadQ {j : Nat} {r : Option Nat} (d : decode (mB M) pc = .ok (.aload j, 2)) (h : List.lookup j ls = some (va_rf r)) (kk : Ex G M Q X k n (pc + 2) ls (va_rf r :: st) C) : Ex G M Q X k n pc ls st C := by
  intro p l e R s m args below meth c Qf S E H locs cells slots lsA hr hL hc hs hv
  obtain ⟨-, -, hx, hb, -⟩ := id S
  cases r with
  | none => exact lv_aloadN hx hb d (hv.2.2 _ (lk_mem h)) (kk p l e R s m args below meth c Qf S E H locs cells slots lsA hr hL hc hs hv)
  | some a => exact lv_aload hx hb d (hv.2.2 _ (lk_mem h)) (kk p l e R s m args below meth c Qf S E H locs cells slots lsA hr hL hc hs hv)
theorem x_istore_n {j : Fin 4} {x : Int32} (d : decode (mB M) pc = .ok (.istore_n j, 1)) (h : (j : Nat) < mL M) (kk : Ex G M Q X k n (pc + 1) (lst1 (j : Nat) (.int x) ls) (st) C) : Ex G M Q X k n pc ls (.int x :: st) C := by
  intro p l e R s m args below meth c Qf S E H locs cells slots lsA hr hL hc hs hv
  obtain ⟨-, -, hx, hb, -⟩ := id S
  exact lv_istore_n hx hb d rfl hv h rfl (fun l9 h9 => kk p l e R s m args below meth c Qf S E H locs cells slots l9 hr hL hc hs h9)
theorem x_istore {j : Nat} {x : Int32} (d : decode (mB M) pc = .ok (.istore j, 2)) (h : j < mL M) (kk : Ex G M Q X k n (pc + 2) (lst1 j (.int x) ls) (st) C) : Ex G M Q X k n pc ls (.int x :: st) C := by
  intro p l e R s m args below meth c Qf S E H locs cells slots lsA hr hL hc hs hv
  obtain ⟨-, -, hx, hb, -⟩ := id S
  exact lv_istore hx hb d hv h rfl (fun l9 h9 => kk p l e R s m args below meth c Qf S E H locs cells slots l9 hr hL hc hs h9)
theorem x_astore_n {j : Fin 4} {x : Nat} (d : decode (mB M) pc = .ok (.astore_n j, 1)) (h : (j : Nat) < mL M) (kk : Ex G M Q X k n (pc + 1) (lst1 (j : Nat) (.ref x) ls) (st) C) : Ex G M Q X k n pc ls (.ref x :: st) C := by
  intro p l e R s m args below meth c Qf S E H locs cells slots lsA hr hL hc hs hv
  obtain ⟨-, -, hx, hb, -⟩ := id S
  exact lv_astore_n hx hb d rfl hv h rfl (fun l9 h9 => kk p l e R s m args below meth c Qf S E H locs cells slots l9 hr hL hc hs h9)
theorem x_astore {j : Nat} {x : Nat} (d : decode (mB M) pc = .ok (.astore j, 2)) (h : j < mL M) (kk : Ex G M Q X k n (pc + 2) (lst1 j (.ref x) ls) (st) C) : Ex G M Q X k n pc ls (.ref x :: st) C := by
  intro p l e R s m args below meth c Qf S E H locs cells slots lsA hr hL hc hs hv
  obtain ⟨-, -, hx, hb, -⟩ := id S
  exact lv_astore hx hb d hv h rfl (fun l9 h9 => kk p l e R s m args below meth c Qf S E H locs cells slots l9 hr hL hc hs h9)
theorem x_lstore_n {j : Fin 4} {x : Int64} (d : decode (mB M) pc = .ok (.lstore_n j, 1)) (h : (j : Nat) + 1 < mL M) (kk : Ex G M Q X k n (pc + 1) (lst2 (j : Nat) (.long x) ls) (st) C) : Ex G M Q X k n pc ls (.long x :: st) C := by
  intro p l e R s m args below meth c Qf S E H locs cells slots lsA hr hL hc hs hv
  obtain ⟨-, -, hx, hb, -⟩ := id S
  exact lv_lstore_n hx hb d rfl hv h rfl (fun l9 h9 => kk p l e R s m args below meth c Qf S E H locs cells slots l9 hr hL hc hs h9)
theorem x_lstore {j : Nat} {x : Int64} (d : decode (mB M) pc = .ok (.lstore j, 2)) (h : j + 1 < mL M) (kk : Ex G M Q X k n (pc + 2) (lst2 j (.long x) ls) (st) C) : Ex G M Q X k n pc ls (.long x :: st) C := by
  intro p l e R s m args below meth c Qf S E H locs cells slots lsA hr hL hc hs hv
  obtain ⟨-, -, hx, hb, -⟩ := id S
  exact lv_lstore hx hb d hv h rfl (fun l9 h9 => kk p l e R s m args below meth c Qf S E H locs cells slots l9 hr hL hc hs h9)
theorem x_astore_nQ {j : Fin 4} {r : Option Nat} (d : decode (mB M) pc = .ok (.astore_n j, 1)) (h : (j : Nat) < mL M) (kk : Ex G M Q X k n (pc + 1) (lst1 (j : Nat) (va_rf r) ls) st C) : Ex G M Q X k n pc ls (va_rf r :: st) C := by
  intro p l e R s m args below meth c Qf S E H locs cells slots lsA hr hL hc hs hv
  obtain ⟨-, -, hx, hb, -⟩ := id S
  cases r with
  | none => exact lv_astore_nN hx hb d rfl hv h rfl (fun l9 h9 => kk p l e R s m args below meth c Qf S E H locs cells slots l9 hr hL hc hs h9)
  | some a => exact lv_astore_n hx hb d rfl hv h rfl (fun l9 h9 => kk p l e R s m args below meth c Qf S E H locs cells slots l9 hr hL hc hs h9)
theorem x_astoreQ {j : Nat} {r : Option Nat} (d : decode (mB M) pc = .ok (.astore j, 2)) (h : j < mL M) (kk : Ex G M Q X k n (pc + 2) (lst1 j (va_rf r) ls) st C) : Ex G M Q X k n pc ls (va_rf r :: st) C := by
  intro p l e R s m args below meth c Qf S E H locs cells slots lsA hr hL hc hs hv
  obtain ⟨-, -, hx, hb, -⟩ := id S
  cases r with
  | none => exact lv_astoreN hx hb d hv h rfl (fun l9 h9 => kk p l e R s m args below meth c Qf S E H locs cells slots l9 hr hL hc hs h9)
  | some a => exact lv_astore hx hb d hv h rfl (fun l9 h9 => kk p l e R s m args below meth c Qf S E H locs cells slots l9 hr hL hc hs h9)
theorem x_iinc {j : Nat} {i : Int} {x v : Int32} (d : decode (mB M) pc = .ok (.iinc j i, 3)) (h : List.lookup j ls = some (.int x)) (hj : j < mL M) (hi : Int32.ofInt i = v) (kk : Ex G M Q X k n (pc + 3) (lst1 j (.int (x + v)) ls) st C) : Ex G M Q X k n pc ls st C := by
  intro p l e R s m args below meth c Qf S E H locs cells slots lsA hr hL hc hs hv
  obtain ⟨-, -, hx, hb, -⟩ := id S
  obtain ⟨q, hq⟩ := List.getElem?_of_mem (lk_mem h)
  exact lv_iinc hx hb d hv hq (by rw [hi]) hj rfl (fun l9 h9 => kk p l e R s m args below meth c Qf S E H locs cells slots l9 hr hL hc hs h9)
theorem x_iadd {x y : Int32} (d : decode (mB M) pc = .ok (.iadd, 1)) (kk : Ex G M Q X k n (pc + 1) ls (.int (x + y) :: st) C) : Ex G M Q X k n pc ls (.int y :: .int x :: st) C := by
  intro p l e R s m args below meth c Qf S E H locs cells slots lsA hr hL hc hs hv
  obtain ⟨-, -, hx, hb, -⟩ := id S
  exact lv_iadd hx hb d (kk p l e R s m args below meth c Qf S E H locs cells slots lsA hr hL hc hs hv)
theorem x_isub {x y : Int32} (d : decode (mB M) pc = .ok (.isub, 1)) (kk : Ex G M Q X k n (pc + 1) ls (.int (x - y) :: st) C) : Ex G M Q X k n pc ls (.int y :: .int x :: st) C := by
  intro p l e R s m args below meth c Qf S E H locs cells slots lsA hr hL hc hs hv
  obtain ⟨-, -, hx, hb, -⟩ := id S
  exact lv_isub hx hb d (kk p l e R s m args below meth c Qf S E H locs cells slots lsA hr hL hc hs hv)
theorem x_imul {x y : Int32} (d : decode (mB M) pc = .ok (.imul, 1)) (kk : Ex G M Q X k n (pc + 1) ls (.int (x * y) :: st) C) : Ex G M Q X k n pc ls (.int y :: .int x :: st) C := by
  intro p l e R s m args below meth c Qf S E H locs cells slots lsA hr hL hc hs hv
  obtain ⟨-, -, hx, hb, -⟩ := id S
  exact lv_imul hx hb d (kk p l e R s m args below meth c Qf S E H locs cells slots lsA hr hL hc hs hv)
theorem x_iand {x y : Int32} (d : decode (mB M) pc = .ok (.iand, 1)) (kk : Ex G M Q X k n (pc + 1) ls (.int (x &&& y) :: st) C) : Ex G M Q X k n pc ls (.int y :: .int x :: st) C := by
  intro p l e R s m args below meth c Qf S E H locs cells slots lsA hr hL hc hs hv
  obtain ⟨-, -, hx, hb, -⟩ := id S
  exact lv_iand hx hb d (kk p l e R s m args below meth c Qf S E H locs cells slots lsA hr hL hc hs hv)
theorem x_ior {x y : Int32} (d : decode (mB M) pc = .ok (.ior, 1)) (kk : Ex G M Q X k n (pc + 1) ls (.int (x ||| y) :: st) C) : Ex G M Q X k n pc ls (.int y :: .int x :: st) C := by
  intro p l e R s m args below meth c Qf S E H locs cells slots lsA hr hL hc hs hv
  obtain ⟨-, -, hx, hb, -⟩ := id S
  exact lv_ior hx hb d (kk p l e R s m args below meth c Qf S E H locs cells slots lsA hr hL hc hs hv)
theorem x_ixor {x y : Int32} (d : decode (mB M) pc = .ok (.ixor, 1)) (kk : Ex G M Q X k n (pc + 1) ls (.int (x ^^^ y) :: st) C) : Ex G M Q X k n pc ls (.int y :: .int x :: st) C := by
  intro p l e R s m args below meth c Qf S E H locs cells slots lsA hr hL hc hs hv
  obtain ⟨-, -, hx, hb, -⟩ := id S
  exact lv_ixor hx hb d (kk p l e R s m args below meth c Qf S E H locs cells slots lsA hr hL hc hs hv)
theorem x_ishl {x y : Int32} (d : decode (mB M) pc = .ok (.ishl, 1)) (kk : Ex G M Q X k n (pc + 1) ls (.int (x <<< (y &&& 31)) :: st) C) : Ex G M Q X k n pc ls (.int y :: .int x :: st) C := by
  intro p l e R s m args below meth c Qf S E H locs cells slots lsA hr hL hc hs hv
  obtain ⟨-, -, hx, hb, -⟩ := id S
  exact lv_ishl hx hb d (kk p l e R s m args below meth c Qf S E H locs cells slots lsA hr hL hc hs hv)
theorem x_ishr {x y : Int32} (d : decode (mB M) pc = .ok (.ishr, 1)) (kk : Ex G M Q X k n (pc + 1) ls (.int (x >>> (y &&& 31)) :: st) C) : Ex G M Q X k n pc ls (.int y :: .int x :: st) C := by
  intro p l e R s m args below meth c Qf S E H locs cells slots lsA hr hL hc hs hv
  obtain ⟨-, -, hx, hb, -⟩ := id S
  exact lv_ishr hx hb d (kk p l e R s m args below meth c Qf S E H locs cells slots lsA hr hL hc hs hv)
theorem x_idiv {x y : Int32} (d : decode (mB M) pc = .ok (.idiv, 1)) (h : ¬ y = 0) (kk : Ex G M Q X k n (pc + 1) ls (.int (x / y) :: st) C) : Ex G M Q X k n pc ls (.int y :: .int x :: st) C := by
  intro p l e R s m args below meth c Qf S E H locs cells slots lsA hr hL hc hs hv
  obtain ⟨-, -, hx, hb, -⟩ := id S
  exact lv_idiv hx hb d h (kk p l e R s m args below meth c Qf S E H locs cells slots lsA hr hL hc hs hv)
theorem x_irem {x y : Int32} (d : decode (mB M) pc = .ok (.irem, 1)) (h : ¬ y = 0) (kk : Ex G M Q X k n (pc + 1) ls (.int (x - x / y * y) :: st) C) : Ex G M Q X k n pc ls (.int y :: .int x :: st) C := by
  intro p l e R s m args below meth c Qf S E H locs cells slots lsA hr hL hc hs hv
  obtain ⟨-, -, hx, hb, -⟩ := id S
  exact lv_irem hx hb d h (kk p l e R s m args below meth c Qf S E H locs cells slots lsA hr hL hc hs hv)
theorem x_ladd {x y : Int64} (d : decode (mB M) pc = .ok (.ladd, 1)) (kk : Ex G M Q X k n (pc + 1) ls (.long (x + y) :: st) C) : Ex G M Q X k n pc ls (.long y :: .long x :: st) C := by
  intro p l e R s m args below meth c Qf S E H locs cells slots lsA hr hL hc hs hv
  obtain ⟨-, -, hx, hb, -⟩ := id S
  exact lv_ladd hx hb d (kk p l e R s m args below meth c Qf S E H locs cells slots lsA hr hL hc hs hv)
theorem x_lsub {x y : Int64} (d : decode (mB M) pc = .ok (.lsub, 1)) (kk : Ex G M Q X k n (pc + 1) ls (.long (x - y) :: st) C) : Ex G M Q X k n pc ls (.long y :: .long x :: st) C := by
  intro p l e R s m args below meth c Qf S E H locs cells slots lsA hr hL hc hs hv
  obtain ⟨-, -, hx, hb, -⟩ := id S
  exact lv_lsub hx hb d (kk p l e R s m args below meth c Qf S E H locs cells slots lsA hr hL hc hs hv)
theorem x_lmul {x y : Int64} (d : decode (mB M) pc = .ok (.lmul, 1)) (kk : Ex G M Q X k n (pc + 1) ls (.long (x * y) :: st) C) : Ex G M Q X k n pc ls (.long y :: .long x :: st) C := by
  intro p l e R s m args below meth c Qf S E H locs cells slots lsA hr hL hc hs hv
  obtain ⟨-, -, hx, hb, -⟩ := id S
  exact lv_lmul hx hb d (kk p l e R s m args below meth c Qf S E H locs cells slots lsA hr hL hc hs hv)
theorem x_land {x y : Int64} (d : decode (mB M) pc = .ok (.land, 1)) (kk : Ex G M Q X k n (pc + 1) ls (.long (x &&& y) :: st) C) : Ex G M Q X k n pc ls (.long y :: .long x :: st) C := by
  intro p l e R s m args below meth c Qf S E H locs cells slots lsA hr hL hc hs hv
  obtain ⟨-, -, hx, hb, -⟩ := id S
  exact lv_land hx hb d (kk p l e R s m args below meth c Qf S E H locs cells slots lsA hr hL hc hs hv)
theorem x_lor {x y : Int64} (d : decode (mB M) pc = .ok (.lor, 1)) (kk : Ex G M Q X k n (pc + 1) ls (.long (x ||| y) :: st) C) : Ex G M Q X k n pc ls (.long y :: .long x :: st) C := by
  intro p l e R s m args below meth c Qf S E H locs cells slots lsA hr hL hc hs hv
  obtain ⟨-, -, hx, hb, -⟩ := id S
  exact lv_lor hx hb d (kk p l e R s m args below meth c Qf S E H locs cells slots lsA hr hL hc hs hv)
theorem x_ldiv {x y : Int64} (d : decode (mB M) pc = .ok (.ldiv, 1)) (h : ¬ y = 0) (kk : Ex G M Q X k n (pc + 1) ls (.long (x / y) :: st) C) : Ex G M Q X k n pc ls (.long y :: .long x :: st) C := by
  intro p l e R s m args below meth c Qf S E H locs cells slots lsA hr hL hc hs hv
  obtain ⟨-, -, hx, hb, -⟩ := id S
  exact lv_ldiv hx hb d h (kk p l e R s m args below meth c Qf S E H locs cells slots lsA hr hL hc hs hv)
theorem x_lrem {x y : Int64} (d : decode (mB M) pc = .ok (.lrem, 1)) (h : ¬ y = 0) (kk : Ex G M Q X k n (pc + 1) ls (.long (x - x / y * y) :: st) C) : Ex G M Q X k n pc ls (.long y :: .long x :: st) C := by
  intro p l e R s m args below meth c Qf S E H locs cells slots lsA hr hL hc hs hv
  obtain ⟨-, -, hx, hb, -⟩ := id S
  exact lv_lrem hx hb d h (kk p l e R s m args below meth c Qf S E H locs cells slots lsA hr hL hc hs hv)
theorem x_ineg {x : Int32} (d : decode (mB M) pc = .ok (.ineg, 1)) (kk : Ex G M Q X k n (pc + 1) ls (.int (-x) :: st) C) : Ex G M Q X k n pc ls (.int x :: st) C := by
  intro p l e R s m args below meth c Qf S E H locs cells slots lsA hr hL hc hs hv
  obtain ⟨-, -, hx, hb, -⟩ := id S
  exact lv_ineg hx hb d (kk p l e R s m args below meth c Qf S E H locs cells slots lsA hr hL hc hs hv)
theorem x_i2l {x : Int32} (d : decode (mB M) pc = .ok (.i2l, 1)) (kk : Ex G M Q X k n (pc + 1) ls (.long (x.toInt64) :: st) C) : Ex G M Q X k n pc ls (.int x :: st) C := by
  intro p l e R s m args below meth c Qf S E H locs cells slots lsA hr hL hc hs hv
  obtain ⟨-, -, hx, hb, -⟩ := id S
  exact lv_i2l hx hb d rfl (kk p l e R s m args below meth c Qf S E H locs cells slots lsA hr hL hc hs hv)
theorem x_l2i {x : Int64} (d : decode (mB M) pc = .ok (.l2i, 1)) (kk : Ex G M Q X k n (pc + 1) ls (.int (x.toInt32) :: st) C) : Ex G M Q X k n pc ls (.long x :: st) C := by
  intro p l e R s m args below meth c Qf S E H locs cells slots lsA hr hL hc hs hv
  obtain ⟨-, -, hx, hb, -⟩ := id S
  exact lv_l2i hx hb d rfl (kk p l e R s m args below meth c Qf S E H locs cells slots lsA hr hL hc hs hv)
theorem x_i2b {x : Int32} (d : decode (mB M) pc = .ok (.i2b, 1)) (kk : Ex G M Q X k n (pc + 1) ls (.int (x.toInt8.toInt32) :: st) C) : Ex G M Q X k n pc ls (.int x :: st) C := by
  intro p l e R s m args below meth c Qf S E H locs cells slots lsA hr hL hc hs hv
  obtain ⟨-, -, hx, hb, -⟩ := id S
  exact lv_i2b hx hb d rfl (kk p l e R s m args below meth c Qf S E H locs cells slots lsA hr hL hc hs hv)
theorem x_i2c {x : Int32} (d : decode (mB M) pc = .ok (.i2c, 1)) (kk : Ex G M Q X k n (pc + 1) ls (.int ((x.toUInt32 % 65536).toInt32) :: st) C) : Ex G M Q X k n pc ls (.int x :: st) C := by
  intro p l e R s m args below meth c Qf S E H locs cells slots lsA hr hL hc hs hv
  obtain ⟨-, -, hx, hb, -⟩ := id S
  exact lv_i2c hx hb d rfl (kk p l e R s m args below meth c Qf S E H locs cells slots lsA hr hL hc hs hv)
theorem x_lushr {x : Int64} {y : Int32} (d : decode (mB M) pc = .ok (.lushr, 1)) (kk : Ex G M Q X k n (pc + 1) ls (.long ((x.toUInt64 >>> (y.toInt64.toUInt64 &&& Int64.toUInt64 63)).toInt64) :: st) C) : Ex G M Q X k n pc ls (.int y :: .long x :: st) C := by
  intro p l e R s m args below meth c Qf S E H locs cells slots lsA hr hL hc hs hv
  obtain ⟨-, -, hx, hb, -⟩ := id S
  exact lv_lushr hx hb d rfl (kk p l e R s m args below meth c Qf S E H locs cells slots lsA hr hL hc hs hv)
theorem x_lshl {x v : Int64} {y : Int32} (d : decode (mB M) pc = .ok (.lshl, 1)) (h : x <<< (y.toInt64 &&& 63) = v) (kk : Ex G M Q X k n (pc + 1) ls (.long v :: st) C) : Ex G M Q X k n pc ls (.int y :: .long x :: st) C := by
  intro p l e R s m args below meth c Qf S E H locs cells slots lsA hr hL hc hs hv
  obtain ⟨-, -, hx, hb, -⟩ := id S
  exact lv_lshl hx hb d h (kk p l e R s m args below meth c Qf S E H locs cells slots lsA hr hL hc hs hv)
theorem x_lcmp {x y : Int64} (d : decode (mB M) pc = .ok (.lcmp, 1)) (kk : Ex G M Q X k n (pc + 1) ls (.int (lg_cmp x y) :: st) C) : Ex G M Q X k n pc ls (.long y :: .long x :: st) C := by
  intro p l e R s m args below meth c Qf S E H locs cells slots lsA hr hL hc hs hv
  obtain ⟨-, -, hx, hb, -⟩ := id S
  exact W.lcmp hx hb d (kk p l e R s m args below meth c Qf S E H locs cells slots lsA hr hL hc hs hv)
theorem x_dup {v : Value} (d : decode (mB M) pc = .ok (.dup, 1)) (h : v.category = 1) (kk : Ex G M Q X k n (pc + 1) ls (v :: v :: st) C) : Ex G M Q X k n pc ls (v :: st) C := by
  intro p l e R s m args below meth c Qf S E H locs cells slots lsA hr hL hc hs hv
  obtain ⟨-, -, hx, hb, -⟩ := id S
  exact lv_dup hx hb d h (kk p l e R s m args below meth c Qf S E H locs cells slots lsA hr hL hc hs hv)
theorem x_pop {v : Value} (d : decode (mB M) pc = .ok (.pop, 1)) (h : v.category = 1) (kk : Ex G M Q X k n (pc + 1) ls (st) C) : Ex G M Q X k n pc ls (v :: st) C := by
  intro p l e R s m args below meth c Qf S E H locs cells slots lsA hr hL hc hs hv
  obtain ⟨-, -, hx, hb, -⟩ := id S
  exact lv_pop hx hb d h (kk p l e R s m args below meth c Qf S E H locs cells slots lsA hr hL hc hs hv)
theorem x_dup_x1 {v w : Value} (d : decode (mB M) pc = .ok (.dup_x1, 1)) (h : v.category = 1) (h2 : w.category = 1) (kk : Ex G M Q X k n (pc + 1) ls (v :: w :: v :: st) C) : Ex G M Q X k n pc ls (v :: w :: st) C := by
  intro p l e R s m args below meth c Qf S E H locs cells slots lsA hr hL hc hs hv
  obtain ⟨-, -, hx, hb, -⟩ := id S
  exact lv_dup_x1 hx hb d h h2 (kk p l e R s m args below meth c Qf S E H locs cells slots lsA hr hL hc hs hv)
theorem x_dup2 {v w : Value} (d : decode (mB M) pc = .ok (.dup2, 1)) (h : v.category = 1) (h2 : w.category = 1) (kk : Ex G M Q X k n (pc + 1) ls (v :: w :: v :: w :: st) C) : Ex G M Q X k n pc ls (v :: w :: st) C := by
  intro p l e R s m args below meth c Qf S E H locs cells slots lsA hr hL hc hs hv
  obtain ⟨-, -, hx, hb, -⟩ := id S
  exact lv_dup2_11 hx hb d h h2 (kk p l e R s m args below meth c Qf S E H locs cells slots lsA hr hL hc hs hv)
theorem x_dup2l {v : Value} (d : decode (mB M) pc = .ok (.dup2, 1)) (h : v.category = 2) (kk : Ex G M Q X k n (pc + 1) ls (v :: v :: st) C) : Ex G M Q X k n pc ls (v :: st) C := by
  intro p l e R s m args below meth c Qf S E H locs cells slots lsA hr hL hc hs hv
  obtain ⟨-, -, hx, hb, -⟩ := id S
  exact lv_dup2_2 hx hb d h (kk p l e R s m args below meth c Qf S E H locs cells slots lsA hr hL hc hs hv)
theorem x_if_eq {x : Int32} {off : Int} {tgt : Nat} (d : decode (mB M) pc = .ok (.ifCond .eq off, 3)) (ht : (pc : Int) + off = (tgt : Int)) (kt : x = 0 → Ex G M Q X k n tgt ls st C) (kf : ¬ x = 0 → Ex G M Q X k n (pc + 3) ls st C) : Ex G M Q X k n pc ls (.int x :: st) C := by
  intro p l e R s m args below meth c Qf S E H locs cells slots lsA hr hL hc hs hv
  obtain ⟨-, -, hx, hb, -⟩ := id S
  exact lv_if_eq hx hb d ht (fun q9 => kt q9 p l e R s m args below meth c Qf S E H locs cells slots lsA hr hL hc hs hv) (fun q9 => kf q9 p l e R s m args below meth c Qf S E H locs cells slots lsA hr hL hc hs hv)
theorem x_icmp_eq {x y : Int32} {off : Int} {tgt : Nat} (d : decode (mB M) pc = .ok (.if_icmp .eq off, 3)) (ht : (pc : Int) + off = (tgt : Int)) (kt : x = y → Ex G M Q X k n tgt ls st C) (kf : ¬ x = y → Ex G M Q X k n (pc + 3) ls st C) : Ex G M Q X k n pc ls (.int y :: .int x :: st) C := by
  intro p l e R s m args below meth c Qf S E H locs cells slots lsA hr hL hc hs hv
  obtain ⟨-, -, hx, hb, -⟩ := id S
  exact lv_icmp_eq hx hb d ht (fun q9 => kt q9 p l e R s m args below meth c Qf S E H locs cells slots lsA hr hL hc hs hv) (fun q9 => kf q9 p l e R s m args below meth c Qf S E H locs cells slots lsA hr hL hc hs hv)
theorem x_if_ne {x : Int32} {off : Int} {tgt : Nat} (d : decode (mB M) pc = .ok (.ifCond .ne off, 3)) (ht : (pc : Int) + off = (tgt : Int)) (kt : ¬ x = 0 → Ex G M Q X k n tgt ls st C) (kf : x = 0 → Ex G M Q X k n (pc + 3) ls st C) : Ex G M Q X k n pc ls (.int x :: st) C := by
  intro p l e R s m args below meth c Qf S E H locs cells slots lsA hr hL hc hs hv
  obtain ⟨-, -, hx, hb, -⟩ := id S
  exact lv_if_ne hx hb d ht (fun q9 => kt q9 p l e R s m args below meth c Qf S E H locs cells slots lsA hr hL hc hs hv) (fun q9 => kf q9 p l e R s m args below meth c Qf S E H locs cells slots lsA hr hL hc hs hv)
theorem x_icmp_ne {x y : Int32} {off : Int} {tgt : Nat} (d : decode (mB M) pc = .ok (.if_icmp .ne off, 3)) (ht : (pc : Int) + off = (tgt : Int)) (kt : ¬ x = y → Ex G M Q X k n tgt ls st C) (kf : x = y → Ex G M Q X k n (pc + 3) ls st C) : Ex G M Q X k n pc ls (.int y :: .int x :: st) C := by
  intro p l e R s m args below meth c Qf S E H locs cells slots lsA hr hL hc hs hv
  obtain ⟨-, -, hx, hb, -⟩ := id S
  exact lv_icmp_ne hx hb d ht (fun q9 => kt q9 p l e R s m args below meth c Qf S E H locs cells slots lsA hr hL hc hs hv) (fun q9 => kf q9 p l e R s m args below meth c Qf S E H locs cells slots lsA hr hL hc hs hv)
theorem x_if_lt {x : Int32} {off : Int} {tgt : Nat} (d : decode (mB M) pc = .ok (.ifCond .lt off, 3)) (ht : (pc : Int) + off = (tgt : Int)) (kt : x < 0 → Ex G M Q X k n tgt ls st C) (kf : ¬ x < 0 → Ex G M Q X k n (pc + 3) ls st C) : Ex G M Q X k n pc ls (.int x :: st) C := by
  intro p l e R s m args below meth c Qf S E H locs cells slots lsA hr hL hc hs hv
  obtain ⟨-, -, hx, hb, -⟩ := id S
  exact lv_if_lt hx hb d ht (fun q9 => kt q9 p l e R s m args below meth c Qf S E H locs cells slots lsA hr hL hc hs hv) (fun q9 => kf q9 p l e R s m args below meth c Qf S E H locs cells slots lsA hr hL hc hs hv)
theorem x_icmp_lt {x y : Int32} {off : Int} {tgt : Nat} (d : decode (mB M) pc = .ok (.if_icmp .lt off, 3)) (ht : (pc : Int) + off = (tgt : Int)) (kt : x < y → Ex G M Q X k n tgt ls st C) (kf : ¬ x < y → Ex G M Q X k n (pc + 3) ls st C) : Ex G M Q X k n pc ls (.int y :: .int x :: st) C := by
  intro p l e R s m args below meth c Qf S E H locs cells slots lsA hr hL hc hs hv
  obtain ⟨-, -, hx, hb, -⟩ := id S
  exact lv_icmp_lt hx hb d ht (fun q9 => kt q9 p l e R s m args below meth c Qf S E H locs cells slots lsA hr hL hc hs hv) (fun q9 => kf q9 p l e R s m args below meth c Qf S E H locs cells slots lsA hr hL hc hs hv)
theorem x_if_ge {x : Int32} {off : Int} {tgt : Nat} (d : decode (mB M) pc = .ok (.ifCond .ge off, 3)) (ht : (pc : Int) + off = (tgt : Int)) (kt : 0 ≤ x → Ex G M Q X k n tgt ls st C) (kf : ¬ 0 ≤ x → Ex G M Q X k n (pc + 3) ls st C) : Ex G M Q X k n pc ls (.int x :: st) C := by
  intro p l e R s m args below meth c Qf S E H locs cells slots lsA hr hL hc hs hv
  obtain ⟨-, -, hx, hb, -⟩ := id S
  exact lv_if_ge hx hb d ht (fun q9 => kt q9 p l e R s m args below meth c Qf S E H locs cells slots lsA hr hL hc hs hv) (fun q9 => kf q9 p l e R s m args below meth c Qf S E H locs cells slots lsA hr hL hc hs hv)
theorem x_icmp_ge {x y : Int32} {off : Int} {tgt : Nat} (d : decode (mB M) pc = .ok (.if_icmp .ge off, 3)) (ht : (pc : Int) + off = (tgt : Int)) (kt : y ≤ x → Ex G M Q X k n tgt ls st C) (kf : ¬ y ≤ x → Ex G M Q X k n (pc + 3) ls st C) : Ex G M Q X k n pc ls (.int y :: .int x :: st) C := by
  intro p l e R s m args below meth c Qf S E H locs cells slots lsA hr hL hc hs hv
  obtain ⟨-, -, hx, hb, -⟩ := id S
  exact lv_icmp_ge hx hb d ht (fun q9 => kt q9 p l e R s m args below meth c Qf S E H locs cells slots lsA hr hL hc hs hv) (fun q9 => kf q9 p l e R s m args below meth c Qf S E H locs cells slots lsA hr hL hc hs hv)
theorem x_if_gt {x : Int32} {off : Int} {tgt : Nat} (d : decode (mB M) pc = .ok (.ifCond .gt off, 3)) (ht : (pc : Int) + off = (tgt : Int)) (kt : 0 < x → Ex G M Q X k n tgt ls st C) (kf : ¬ 0 < x → Ex G M Q X k n (pc + 3) ls st C) : Ex G M Q X k n pc ls (.int x :: st) C := by
  intro p l e R s m args below meth c Qf S E H locs cells slots lsA hr hL hc hs hv
  obtain ⟨-, -, hx, hb, -⟩ := id S
  exact lv_if_gt hx hb d ht (fun q9 => kt q9 p l e R s m args below meth c Qf S E H locs cells slots lsA hr hL hc hs hv) (fun q9 => kf q9 p l e R s m args below meth c Qf S E H locs cells slots lsA hr hL hc hs hv)
theorem x_icmp_gt {x y : Int32} {off : Int} {tgt : Nat} (d : decode (mB M) pc = .ok (.if_icmp .gt off, 3)) (ht : (pc : Int) + off = (tgt : Int)) (kt : y < x → Ex G M Q X k n tgt ls st C) (kf : ¬ y < x → Ex G M Q X k n (pc + 3) ls st C) : Ex G M Q X k n pc ls (.int y :: .int x :: st) C := by
  intro p l e R s m args below meth c Qf S E H locs cells slots lsA hr hL hc hs hv
  obtain ⟨-, -, hx, hb, -⟩ := id S
  exact lv_icmp_gt hx hb d ht (fun q9 => kt q9 p l e R s m args below meth c Qf S E H locs cells slots lsA hr hL hc hs hv) (fun q9 => kf q9 p l e R s m args below meth c Qf S E H locs cells slots lsA hr hL hc hs hv)
theorem x_if_le {x : Int32} {off : Int} {tgt : Nat} (d : decode (mB M) pc = .ok (.ifCond .le off, 3)) (ht : (pc : Int) + off = (tgt : Int)) (kt : x ≤ 0 → Ex G M Q X k n tgt ls st C) (kf : ¬ x ≤ 0 → Ex G M Q X k n (pc + 3) ls st C) : Ex G M Q X k n pc ls (.int x :: st) C := by
  intro p l e R s m args below meth c Qf S E H locs cells slots lsA hr hL hc hs hv
  obtain ⟨-, -, hx, hb, -⟩ := id S
  exact lv_if_le hx hb d ht (fun q9 => kt q9 p l e R s m args below meth c Qf S E H locs cells slots lsA hr hL hc hs hv) (fun q9 => kf q9 p l e R s m args below meth c Qf S E H locs cells slots lsA hr hL hc hs hv)
theorem x_icmp_le {x y : Int32} {off : Int} {tgt : Nat} (d : decode (mB M) pc = .ok (.if_icmp .le off, 3)) (ht : (pc : Int) + off = (tgt : Int)) (kt : x ≤ y → Ex G M Q X k n tgt ls st C) (kf : ¬ x ≤ y → Ex G M Q X k n (pc + 3) ls st C) : Ex G M Q X k n pc ls (.int y :: .int x :: st) C := by
  intro p l e R s m args below meth c Qf S E H locs cells slots lsA hr hL hc hs hv
  obtain ⟨-, -, hx, hb, -⟩ := id S
  exact lv_icmp_le hx hb d ht (fun q9 => kt q9 p l e R s m args below meth c Qf S E H locs cells slots lsA hr hL hc hs hv) (fun q9 => kf q9 p l e R s m args below meth c Qf S E H locs cells slots lsA hr hL hc hs hv)
theorem x_goto {off : Int} {tgt : Nat} (d : decode (mB M) pc = .ok (.goto off, 3)) (ht : (pc : Int) + off = (tgt : Int)) (kk : Ex G M Q X k n tgt ls st C) : Ex G M Q X k n pc ls st C := by
  intro p l e R s m args below meth c Qf S E H locs cells slots lsA hr hL hc hs hv
  obtain ⟨-, -, hx, hb, -⟩ := id S
  exact lv_goto hx hb d ht (kk p l e R s m args below meth c Qf S E H locs cells slots lsA hr hL hc hs hv)
theorem x_ifnull {r : Option Nat} {off : Int} {tgt : Nat} (d : decode (mB M) pc = .ok (.ifnull off, 3)) (ht : (pc : Int) + off = (tgt : Int)) (k0 : r = none → Ex G M Q X k n (tgt) ls st C) (k1 : ∀ a : Nat, r = some a → Ex G M Q X k n (pc + 3) ls st C) : Ex G M Q X k n pc ls (va_rf r :: st) C := by
  intro p l e R s m args below meth c Qf S E H locs cells slots lsA hr hL hc hs hv
  obtain ⟨-, -, hx, hb, -⟩ := id S
  cases r with
  | none => exact lv_ifnullN hx hb d ht ((k0 rfl) p l e R s m args below meth c Qf S E H locs cells slots lsA hr hL hc hs hv)
  | some a => exact lv_ifnull hx hb d ((k1 a rfl) p l e R s m args below meth c Qf S E H locs cells slots lsA hr hL hc hs hv)
theorem x_ifnonnull {r : Option Nat} {off : Int} {tgt : Nat} (d : decode (mB M) pc = .ok (.ifnonnull off, 3)) (ht : (pc : Int) + off = (tgt : Int)) (k0 : r = none → Ex G M Q X k n (pc + 3) ls st C) (k1 : ∀ a : Nat, r = some a → Ex G M Q X k n (tgt) ls st C) : Ex G M Q X k n pc ls (va_rf r :: st) C := by
  intro p l e R s m args below meth c Qf S E H locs cells slots lsA hr hL hc hs hv
  obtain ⟨-, -, hx, hb, -⟩ := id S
  cases r with
  | none => exact lv_ifnonnullN hx hb d  ((k0 rfl) p l e R s m args below meth c Qf S E H locs cells slots lsA hr hL hc hs hv)
  | some a => exact lv_ifnonnull hx hb d ht ((k1 a rfl) p l e R s m args below meth c Qf S E H locs cells slots lsA hr hL hc hs hv)
theorem x_tableIn {dflt lo hi : Int} {offs : Array Int} {len : Nat} {x : Int32} {off : Int} {tgt : Nat} (d : decode (mB M) pc = .ok (.tableswitch dflt lo hi offs, len)) (h1 : ¬ x.toInt < lo) (h2 : ¬ hi < x.toInt) (ho : offs[(x.toInt - lo).toNat]? = some off) (ht : (pc : Int) + off = (tgt : Int)) (kk : Ex G M Q X k n tgt ls st C) : Ex G M Q X k n pc ls (.int x :: st) C := by
  intro p l e R s m args below meth c Qf S E H locs cells slots lsA hr hL hc hs hv
  obtain ⟨-, -, hx, hb, -⟩ := id S
  exact lv_tableIn hx hb d h1 h2 ho ht (kk p l e R s m args below meth c Qf S E H locs cells slots lsA hr hL hc hs hv)
theorem x_tableOut {dflt lo hi : Int} {offs : Array Int} {len : Nat} {x : Int32} {tgt : Nat} (d : decode (mB M) pc = .ok (.tableswitch dflt lo hi offs, len)) (h : x.toInt < lo ∨ hi < x.toInt) (ht : (pc : Int) + dflt = (tgt : Int)) (kk : Ex G M Q X k n tgt ls st C) : Ex G M Q X k n pc ls (.int x :: st) C := by
  intro p l e R s m args below meth c Qf S E H locs cells slots lsA hr hL hc hs hv
  obtain ⟨-, -, hx, hb, -⟩ := id S
  exact lv_tableOut hx hb d h ht (kk p l e R s m args below meth c Qf S E H locs cells slots lsA hr hL hc hs hv)
theorem x_lookup {dflt : Int} {ps : Array (Int × Int)} {len : Nat} {x : Int32} {off : Int} {tgt : Nat} (d : decode (mB M) pc = .ok (.lookupswitch dflt ps, len)) (hp : (ps.toList.zip (ps.toList.drop 1)).all (fun (a, next) => a.1 < next.1) = true) (ho : Op.lookupswitch.offset ps.toList dflt x.toInt = off) (ht : (pc : Int) + off = (tgt : Int)) (kk : Ex G M Q X k n tgt ls st C) : Ex G M Q X k n pc ls (.int x :: st) C := by
  intro p l e R s m args below meth c Qf S E H locs cells slots lsA hr hL hc hs hv
  obtain ⟨-, -, hx, hb, -⟩ := id S
  exact lv_lookup hx hb d hp ho ht (kk p l e R s m args below meth c Qf S E H locs cells slots lsA hr hL hc hs hv)
theorem x_ldc {i : Nat} {v : Int32} (hG : GW G) (d : decode (mB M) pc = .ok (.ldc i, 2)) (hw : Cond.constant (mY M).cls i v ∈ TT) (kk : Ex G M Q X k n (pc + 2) ls (.int v :: st) C) : Ex G M Q X k n pc ls st C := by
  intro p l e R s m args below meth c Qf S E H locs cells slots lsA hr hL hc hs hv
  obtain ⟨-, -, hx, hb, -, hown, hW, -⟩ := id S
  exact lv_ldc hx hb hown (tt_use hG hw hW) d (kk p l e R s m args below meth c Qf S E H locs cells slots lsA hr hL hc hs hv)
theorem x_ldcw {i : Nat} {v : Int32} (hG : GW G) (d : decode (mB M) pc = .ok (.ldc_w i, 3)) (hw : Cond.constant (mY M).cls i v ∈ TT) (kk : Ex G M Q X k n (pc + 3) ls (.int v :: st) C) : Ex G M Q X k n pc ls st C := by
  intro p l e R s m args below meth c Qf S E H locs cells slots lsA hr hL hc hs hv
  obtain ⟨-, -, hx, hb, -, hown, hW, -⟩ := id S
  exact lv_ldcw hx hb hown (tt_use hG hw hW) d (kk p l e R s m args below meth c Qf S E H locs cells slots lsA hr hL hc hs hv)
theorem x_ldc2 {i : Nat} {v : Int64} (hG : GW G) (d : decode (mB M) pc = .ok (.ldc2_w i, 3)) (hw : Cond.constantLong (mY M).cls i v ∈ TT) (kk : Ex G M Q X k n (pc + 3) ls (.long v :: st) C) : Ex G M Q X k n pc ls st C := by
  intro p l e R s m args below meth c Qf S E H locs cells slots lsA hr hL hc hs hv
  obtain ⟨-, -, hx, hb, -, hown, hW, -⟩ := id S
  exact lv_ldc2 hx hb hown (tt_use hG hw hW) d (kk p l e R s m args below meth c Qf S E H locs cells slots lsA hr hL hc hs hv)
theorem x_ret (d : decode (mB M) pc = .ok (.return_, 1)) (hT : mT M = none) (hq : Q none C) : Ex G M Q X k n pc ls [] C := by
  intro p l e R s m args below meth c Qf S E H locs cells slots lsA hr hL hc hs hv
  obtain ⟨-, -, hx, hb, -⟩ := id S
  exact E.1 none C H locs cells slots pc lsA hq hr hL (by omega) (by omega) (Or.inl ⟨rfl, hT, d⟩)
theorem x_iret {x : Int32} {ty : FieldType} (d : decode (mB M) pc = .ok (.ireturn, 1)) (hT : mT M = some ty) (hn : narrow ty (.int x) = .int x) (hq : Q (some (.int x)) C) : Ex G M Q X k n pc ls [.int x] C := by
  intro p l e R s m args below meth c Qf S E H locs cells slots lsA hr hL hc hs hv
  obtain ⟨-, -, hx, hb, -⟩ := id S
  exact E.1 (some (.int x)) C H locs cells slots pc lsA hq hr hL (by omega) (by omega) (Or.inr (Or.inl ⟨x, ty, rfl, hT, hn, d⟩))
theorem x_lret {x : Int64} (d : decode (mB M) pc = .ok (.lreturn, 1)) (hT : mT M = some .long) (hq : Q (some (.long x)) C) : Ex G M Q X k n pc ls [.long x] C := by
  intro p l e R s m args below meth c Qf S E H locs cells slots lsA hr hL hc hs hv
  obtain ⟨-, -, hx, hb, -⟩ := id S
  exact E.1 (some (.long x)) C H locs cells slots pc lsA hq hr hL (by omega) (by omega) (Or.inr (Or.inr (Or.inl ⟨x, rfl, hT, d⟩)))
theorem x_aret {r : Option Nat} {ty : FieldType} (d : decode (mB M) pc = .ok (.areturn, 1)) (hT : mT M = some ty) (hn : (∃ n, ty = FieldType.object n) ∨ ∃ t, ty = FieldType.array t) (hq : Q (some (va_rf r)) C) : Ex G M Q X k n pc ls [va_rf r] C := by
  intro p l e R s m args below meth c Qf S E H locs cells slots lsA hr hL hc hs hv
  obtain ⟨-, -, hx, hb, -⟩ := id S
  exact E.1 (some (va_rf r)) C H locs cells slots pc lsA hq hr hL (by omega) (by omega) (Or.inr (Or.inr (Or.inr ⟨r, ty, rfl, hT, hn, d⟩)))
end XS
