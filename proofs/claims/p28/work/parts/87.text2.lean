/-! a text that is told -/
def txS (S : Nat → Nat) (l : List Nat) : Nat → Nat := fun i => if i < l.length then l.getD i 0 else S i
theorem txS_nil {S : Nat → Nat} : txS S [] = S := funext fun i => if_neg (Nat.not_lt_zero i)
theorem txS_app {S : Nat → Nat} {l : List Nat} {c : Nat} : uN (txS S l) l.length c = txS S (l ++ [c]) := by
  funext i
  have el : (l ++ [c]).length = l.length + 1 := List.length_append
  by_cases h : i = l.length
  · subst h
    rw [uN_s]
    unfold txS
    rw [if_pos (by omega), getD_ar (Nat.le_refl _), Nat.sub_self]
    rfl
  · rw [uN_n h]
    unfold txS
    by_cases h2 : i < l.length
    · rw [if_pos h2, if_pos (by omega), getD_al h2]
    · rw [if_neg h2, if_neg (by omega)]
/-- the text l goes on with w at p, to its end -/
def At (l : List Nat) (p : Nat) (w : List Nat) : Prop := ∃ a, l = a ++ w ∧ a.length = p
theorem at_0 {l : List Nat} : At l 0 l := ⟨[], rfl, rfl⟩
theorem at_app {l w r : List Nat} {p : Nat} (h : At l p (w ++ r)) : At l (p + w.length) r := by
  obtain ⟨a, h1, h2⟩ := h
  exact ⟨a ++ w, by rw [h1, List.append_assoc], by rw [List.length_append, h2]⟩
theorem at_cons {l r : List Nat} {p c : Nat} (h : At l p (c :: r)) : At l (p + 1) r := at_app (w := [c]) h
theorem at_le {l w : List Nat} {p : Nat} (h : At l p w) : p + w.length = l.length := by
  obtain ⟨a, h1, h2⟩ := h
  rw [h1, List.length_append, h2]
abbrev chT (S : Nat → Nat) (l : List Nat) (p : Nat) : Nat := ch (txS S l) l.length p
theorem ch_at {S : Nat → Nat} {l r : List Nat} {p c : Nat} (h : At l p (c :: r)) : chT S l p = c := by
  have hl := at_le h
  have hp : p < l.length := by
    have : (c :: r).length = r.length + 1 := rfl
    omega
  obtain ⟨a, h1, h2⟩ := h
  show (if p < l.length then txS S l p else 1000) = c
  rw [if_pos hp]
  show (if p < l.length then l.getD p 0 else S p) = c
  rw [if_pos hp, h1, getD_ar (by omega), h2, Nat.sub_self]
  rfl
theorem ch_end {S : Nat → Nat} {l : List Nat} {p : Nat} (h : At l p []) : chT S l p = 1000 := if_neg (by have := at_le h; have e : ([] : List Nat).length = 0 := rfl; omega)
/-- what follows is no digit -/
def NoD (r : List Nat) : Prop := r = [] ∨ ∃ c r', r = c :: r' ∧ ¬ isD c
theorem ch_no {S : Nat → Nat} {l r : List Nat} {p : Nat} (h : At l p r) (hr : NoD r) : ¬ isD (chT S l p) := by
  rcases hr with rfl | ⟨c, r', rfl, hc⟩
  · rw [ch_end h]
    decide
  · rw [ch_at h]
    exact hc
def nb (v : Nat) : List Nat := 44 :: dgs v
theorem nb_len {v : Nat} (h : v ≤ 99) : (nb v).length ≤ 3 := by
  show (dgs v).length + 1 ≤ 3
  have := (dgs_3 (v := v)).2.1 (by omega)
  omega
theorem pNum_at {S : Nat → Nat} {l r : List Nat} {lo hi p v : Nat} (hv : v ≤ 99) (h : At l p (nb v ++ r)) (hr : NoD r) (h1 : lo ≤ v) (h2 : v ≤ hi) : pNum (txS S l) l.length lo hi p = (true, p + (nb v).length, v) := by
  have c0 : chT S l p = 44 := ch_at h
  have a1 : At l (p + 1) (dgs v ++ r) := at_cons h
  have a2 := at_app (w := nb v) h
  have hn := ch_no (S := S) a2 hr
  by_cases q : v < 10
  · have e : dgs v = [48 + v] := if_pos q
    have en : (nb v).length = 2 := by unfold nb; rw [e]; rfl
    rw [e] at a1
    rw [en] at hn ⊢
    have c1 : chT S l (p + 1) = 48 + v := ch_at a1
    unfold pNum
    rw [if_pos c0]
    rw [show ch (txS S l) l.length (p + 1) = 48 + v from c1]
    rw [if_pos ⟨⟨by omega, by omega⟩, by unfold Beg; omega⟩]
    by_cases z : v = 0
    · subst z
      rfl
    · rw [if_neg (by omega), Nat.add_sub_cancel_left]
      unfold nmb
      rw [if_neg hn]
      rw [decide_eq_true h1]
  · have e : dgs v = [48 + v / 10, 48 + v % 10] := by
      unfold dgs
      rw [if_neg q, if_pos (by omega)]
    have en : (nb v).length = 3 := by unfold nb; rw [e]; rfl
    rw [e] at a1
    rw [en] at hn ⊢
    have c1 : chT S l (p + 1) = 48 + v / 10 := ch_at a1
    have c2 : chT S l (p + 2) = 48 + v % 10 := ch_at (at_cons a1)
    unfold pNum
    rw [if_pos c0]
    rw [show ch (txS S l) l.length (p + 1) = 48 + v / 10 from c1]
    rw [if_pos ⟨⟨by omega, by omega⟩, by unfold Beg; omega⟩, if_neg (by omega), Nat.add_sub_cancel_left]
    unfold nmb
    rw [show ch (txS S l) l.length (p + 2) = 48 + v % 10 from c2, if_pos ⟨by omega, by omega⟩, Nat.add_sub_cancel_left, show 10 * (v / 10) + v % 10 = v by omega, if_pos (by unfold Beg; omega)]
    unfold nmb
    rw [if_neg (show ¬ isD (ch (txS S l) l.length (p + 2 + 1)) from hn), decide_eq_true h1]
theorem pN_at {S : Nat → Nat} {l r : List Nat} {lo hi k p v : Nat} {s : PS} (hv : v ≤ 99) (h : At l p (nb v ++ r)) (hr : NoD r) (h1 : lo ≤ v) (h2 : v ≤ hi) (hs : s.1 = true ∧ s.2.1 = p) : (pN (txS S l) l.length lo hi k s).1 = true ∧ (pN (txS S l) l.length lo hi k s).2.1 = p + (nb v).length := by
  unfold pN
  rw [if_pos hs.1, hs.2, pNum_at hv h hr h1 h2]
  exact ⟨rfl, rfl⟩
theorem pW_at {S : Nat → Nat} {l r w : List Nat} {p : Nat} {s : PS} (h : At l p (w ++ r)) (hs : s.1 = true ∧ s.2.1 = p) : (pW (txS S l) l.length w s).1 = true ∧ (pW (txS S l) l.length w s).2.1 = p + w.length := by
  induction w generalizing p s with
  | nil => exact hs
  | cons c w ih =>
    have c0 : chT S l p = c := ch_at h
    have e : pC (txS S l) l.length c s = (true, s.2.1 + 1, s.2.2) := if_pos ⟨hs.1, by rw [hs.2]; exact c0⟩
    have q := ih (p := p + 1) (s := pC (txS S l) l.length c s) (at_cons h) (by rw [e]; exact ⟨rfl, by show s.2.1 + 1 = p + 1; rw [hs.2]⟩)
    refine ⟨q.1, q.2.trans ?_⟩
    show p + 1 + w.length = p + (w.length + 1)
    omega
theorem noD_c {c : Nat} {r : List Nat} (h : ¬ isD c) : NoD (c :: r) := Or.inr ⟨c, r, rfl, h⟩
theorem noD_nb {v : Nat} {r : List Nat} : NoD (nb v ++ r) := Or.inr ⟨44, dgs v ++ r, rfl, by decide⟩
def busW (z c m a b : Nat) : List Nat := [98, 117, 115] ++ (nb z ++ (nb c ++ (nb m ++ (nb a ++ nb b))))
def plgW (v : Nat) : List Nat := [112, 108, 117, 103] ++ nb v
def runW (v : Nat) : List Nat := [114, 117, 110] ++ nb v
theorem cmd_bus {S : Nat → Nat} {l r : List Nat} {p z c m a b : Nat} (h : At l p (busW z c m a b ++ r)) (hr : NoD r) (hz : 10 ≤ z ∧ z ≤ 99) (hc : c ≤ 99) (hm : 1 ≤ m ∧ m ≤ 99) (ha : a ≤ 23) (hb : b ≤ 23) : (pCmd (txS S l) l.length p).1 = true ∧ (pCmd (txS S l) l.length p).2.1 = p + (busW z c m a b).length := by
  unfold busW at h ⊢
  simp only [List.append_assoc] at h
  have c0 : ch (txS S l) l.length p = 98 := ch_at h
  have s0 := pW_at (S := S) (s := s0 p) h ⟨rfl, rfl⟩
  have a0 := at_app h
  have s1 := pN_at (S := S) (lo := 10) (hi := 400) (k := 0) hz.2 a0 noD_nb hz.1 (by omega) s0
  have a1 := at_app a0
  have s2 := pN_at (S := S) (lo := 0) (hi := 400) (k := 1) hc a1 noD_nb (Nat.zero_le _) (by omega) s1
  have a2 := at_app a1
  have s3 := pN_at (S := S) (lo := 1) (hi := 400) (k := 2) hm.2 a2 noD_nb hm.1 (by omega) s2
  have a3 := at_app a2
  have s4 := pN_at (S := S) (lo := 0) (hi := 23) (k := 3) (by omega) a3 noD_nb (Nat.zero_le _) ha s3
  have a4 := at_app a3
  have s5 := pN_at (S := S) (lo := 0) (hi := 23) (k := 4) (by omega) a4 hr (Nat.zero_le _) hb s4
  unfold pCmd
  rw [if_pos c0]
  refine ⟨s5.1, s5.2.trans ?_⟩
  simp only [List.length_append]
  omega
theorem cmd_plg {S : Nat → Nat} {l r : List Nat} {p v : Nat} (h : At l p (plgW v ++ r)) (hr : NoD r) (hv : 1 ≤ v ∧ v ≤ 50) : (pCmd (txS S l) l.length p).1 = true ∧ (pCmd (txS S l) l.length p).2.1 = p + (plgW v).length := by
  unfold plgW at h ⊢
  simp only [List.append_assoc] at h
  have c0 : ch (txS S l) l.length p = 112 := ch_at h
  have s0 := pW_at (S := S) (s := s0 p) h ⟨rfl, rfl⟩
  have a0 := at_app h
  have s1 := pN_at (S := S) (lo := 1) (hi := 50) (k := 0) (by omega) a0 hr hv.1 hv.2 s0
  unfold pCmd
  rw [if_neg (by rw [c0]; decide), if_pos c0]
  refine ⟨s1.1, s1.2.trans ?_⟩
  simp only [List.length_append]
  omega
theorem cmd_run {S : Nat → Nat} {l r : List Nat} {p v : Nat} (h : At l p (runW v ++ r)) (hr : NoD r) (hv : 1 ≤ v ∧ v ≤ 48) : (pCmd (txS S l) l.length p).1 = true ∧ (pCmd (txS S l) l.length p).2.1 = p + (runW v).length := by
  unfold runW at h ⊢
  simp only [List.append_assoc] at h
  have c0 : ch (txS S l) l.length p = 114 := ch_at h
  have s0 := pW_at (S := S) (s := s0 p) h ⟨rfl, rfl⟩
  have a0 := at_app h
  have s1 := pN_at (S := S) (lo := 1) (hi := 48) (k := 0) (by omega) a0 hr hv.1 hv.2 s0
  unfold pCmd
  rw [if_neg (by rw [c0]; decide), if_neg (by rw [c0]; decide), if_pos c0]
  refine ⟨s1.1, s1.2.trans ?_⟩
  simp only [List.length_append]
  omega
theorem all_go {S : Nat → Nat} {l w r : List Nat} {p f : Nat} (h : At l p (w ++ 59 :: r)) (hc : (pCmd (txS S l) l.length p).1 = true ∧ (pCmd (txS S l) l.length p).2.1 = p + w.length) : pAll (txS S l) l.length (f + 1) p = pAll (txS S l) l.length f (p + w.length + 1) := by
  have a := at_app h
  have hl := at_le a
  have e : (59 :: r).length = r.length + 1 := rfl
  have c0 : ch (txS S l) l.length (p + w.length) = 59 := ch_at a
  conv => lhs; unfold pAll
  rw [if_pos hc.1, hc.2, if_neg (by omega), if_pos c0]
theorem all_end {S : Nat → Nat} {l w : List Nat} {p f : Nat} (h : At l p w) (hc : (pCmd (txS S l) l.length p).1 = true ∧ (pCmd (txS S l) l.length p).2.1 = p + w.length) : pAll (txS S l) l.length (f + 1) p = none := by
  have hl := at_le h
  unfold pAll
  rw [if_pos hc.1, hc.2, if_pos hl]
def vK (X k : Nat) : Nat := X / 2 ^ k % 100000 + 107 * k
def wK (Y k : Nat) : Nat := Y / 2 ^ k % 100000 + 109 * k
def zK (X k : Nat) : Nat := 20 + vK X k % 80
def bsK (X Y k : Nat) : List Nat := busW (zK X k) (vK X k / 80 % (zK X k + 1)) (1 + wK Y k % 60) (wK Y k / 60 % 24) ((wK Y k / 60 + 1 + vK X k / 9 % 23) % 24)
def sgK (X Y k : Nat) : List Nat := bsK X Y k ++ 59 :: (plgW (1 + wK Y k / 7 % 30) ++ [59])
def tlK (X Y : Nat) : Nat → List Nat
  | 0 => []
  | k + 1 => tlK X Y k ++ sgK X Y k
def tlT (X Y : Nat) : List Nat := tlK X Y 3 ++ runW (1 + Y % 48)
theorem all_seg {S : Nat → Nat} {l r : List Nat} {p f X Y k : Nat} (h : At l p (sgK X Y k ++ r)) : pAll (txS S l) l.length (f + 2) p = pAll (txS S l) l.length f (p + (sgK X Y k).length) ∧ At l (p + (sgK X Y k).length) r := by
  refine ⟨?_, at_app h⟩
  unfold sgK at h ⊢
  simp only [List.append_assoc, List.cons_append, List.nil_append] at h
  have hz : zK X k ≤ 99 := by unfold zK; omega
  have hc : vK X k / 80 % (zK X k + 1) ≤ 99 := by have := Nat.mod_lt (vK X k / 80) (show 0 < zK X k + 1 by omega); omega
  have c1 := cmd_bus (S := S) h (noD_c (by decide)) ⟨by unfold zK; omega, hz⟩ hc ⟨by omega, by omega⟩ (by omega) (by omega)
  have g1 := all_go (f := f + 1) h c1
  have a1 := at_cons (at_app h)
  have c2 := cmd_plg (S := S) a1 (noD_c (by decide)) ⟨by omega, by omega⟩
  have g2 := all_go (f := f) a1 c2
  rw [g1]
  refine Eq.trans g2 (congrArg _ ?_)
  simp only [List.length_append, List.length_cons, List.length_nil]
  unfold bsK
  omega
theorem all_tells {S : Nat → Nat} {X Y : Nat} : pAll (txS S (tlT X Y)) (tlT X Y).length ((tlT X Y).length + 1) 0 = none := by
  have h : At (tlT X Y) 0 (sgK X Y 0 ++ (sgK X Y 1 ++ (sgK X Y 2 ++ runW (1 + Y % 48)))) := ⟨[], by simp only [tlT, tlK, List.append_assoc, List.nil_append], rfl⟩
  have hl := at_le h
  have e3 : 3 ≤ (sgK X Y 0).length ∧ 3 ≤ (sgK X Y 1).length ∧ 3 ≤ (runW (1 + Y % 48)).length := by
    refine ⟨?_, ?_, ?_⟩
    · unfold sgK bsK busW; simp only [List.length_append, List.length_cons, List.length_nil]; omega
    · unfold sgK bsK busW; simp only [List.length_append, List.length_cons, List.length_nil]; omega
    · unfold runW; simp only [List.length_append, List.length_cons, List.length_nil]; omega
  simp only [List.length_append] at hl
  obtain ⟨f, hf⟩ : ∃ f, (tlT X Y).length + 1 = f + 1 + 2 + 2 + 2 := ⟨(tlT X Y).length - 6, by omega⟩
  rw [hf]
  obtain ⟨g1, a1⟩ := all_seg (S := S) (f := f + 1 + 2 + 2) h
  obtain ⟨g2, a2⟩ := all_seg (S := S) (f := f + 1 + 2) a1
  obtain ⟨g3, a3⟩ := all_seg (S := S) (f := f + 1) a2
  rw [g1, g2, g3]
  have a3' : At (tlT X Y) (0 + (sgK X Y 0).length + (sgK X Y 1).length + (sgK X Y 2).length) (runW (1 + Y % 48) ++ []) := by rw [List.append_nil]; exact a3
  exact all_end a3 (cmd_run (S := S) a3' (Or.inl rfl) ⟨by omega, by omega⟩)
theorem tl_len {X Y k : Nat} (h : k ≤ 3) : (tlK X Y k).length ≤ 27 * k := by
  have s : ∀ k, (sgK X Y k).length ≤ 27 := by
    intro k
    have hz : zK X k ≤ 99 := by unfold zK; omega
    have hc : vK X k / 80 % (zK X k + 1) ≤ 99 := by have := Nat.mod_lt (vK X k / 80) (show 0 < zK X k + 1 by omega); omega
    have n1 := nb_len hz
    have n2 := nb_len hc
    have n3 := nb_len (v := 1 + wK Y k % 60) (by omega)
    have n4 := nb_len (v := wK Y k / 60 % 24) (by omega)
    have n5 := nb_len (v := (wK Y k / 60 + 1 + vK X k / 9 % 23) % 24) (by omega)
    have n6 := nb_len (v := 1 + wK Y k / 7 % 30) (by omega)
    unfold sgK bsK busW plgW
    simp only [List.length_append, List.length_cons, List.length_nil]
    omega
  induction k with
  | zero => exact Nat.le_refl _
  | succ k ih =>
    have := ih (by omega)
    have := s k
    show (tlK X Y k ++ sgK X Y k).length ≤ _
    rw [List.length_append]
    omega
