section XN
variable {G : GT} {M : MI} {Q : QT} {X : XT} {k n pc : Nat} {ls : List (Nat × Value)} {st : List Value} {C : AH}
theorem x_ifnullR {a : Nat} {off : Int} (d : decode (mB M) pc = .ok (.ifnull off, 3)) (kk : Ex G M Q X k n (pc + 3) ls st C) : Ex G M Q X k n pc ls (.ref a :: st) C := by
  intro p l e R s m args below meth c Qf S E H locs cells slots lsA hr hL hc hs hv
  obtain ⟨-, -, hx, hb, -⟩ := id S
  exact lv_ifnull hx hb d (kk p l e R s m args below meth c Qf S E H locs cells slots lsA hr hL hc hs hv)
theorem x_ifnullZ {off : Int} {tgt : Nat} (d : decode (mB M) pc = .ok (.ifnull off, 3)) (ht : (pc : Int) + off = (tgt : Int)) (kk : Ex G M Q X k n tgt ls st C) : Ex G M Q X k n pc ls (.null :: st) C := by
  intro p l e R s m args below meth c Qf S E H locs cells slots lsA hr hL hc hs hv
  obtain ⟨-, -, hx, hb, -⟩ := id S
  exact lv_ifnullN hx hb d ht (kk p l e R s m args below meth c Qf S E H locs cells slots lsA hr hL hc hs hv)
theorem x_ifnonnullR {a : Nat} {off : Int} {tgt : Nat} (d : decode (mB M) pc = .ok (.ifnonnull off, 3)) (ht : (pc : Int) + off = (tgt : Int)) (kk : Ex G M Q X k n tgt ls st C) : Ex G M Q X k n pc ls (.ref a :: st) C := by
  intro p l e R s m args below meth c Qf S E H locs cells slots lsA hr hL hc hs hv
  obtain ⟨-, -, hx, hb, -⟩ := id S
  exact lv_ifnonnull hx hb d ht (kk p l e R s m args below meth c Qf S E H locs cells slots lsA hr hL hc hs hv)
theorem x_ifnonnullZ {off : Int} (d : decode (mB M) pc = .ok (.ifnonnull off, 3)) (kk : Ex G M Q X k n (pc + 3) ls st C) : Ex G M Q X k n pc ls (.null :: st) C := by
  intro p l e R s m args below meth c Qf S E H locs cells slots lsA hr hL hc hs hv
  obtain ⟨-, -, hx, hb, -⟩ := id S
  exact lv_ifnonnullN hx hb d (kk p l e R s m args below meth c Qf S E H locs cells slots lsA hr hL hc hs hv)
theorem x_aload_nZ {j : Fin 4} (d : decode (mB M) pc = .ok (.aload_n j, 1)) (h : List.lookup (j : Nat) ls = some .null) (kk : Ex G M Q X k n (pc + 1) ls (.null :: st) C) : Ex G M Q X k n pc ls st C := by
  intro p l e R s m args below meth c Qf S E H locs cells slots lsA hr hL hc hs hv
  obtain ⟨-, -, hx, hb, -⟩ := id S
  exact lv_aload_nN hx hb d rfl (hv.2.2 _ (lk_mem h)) (kk p l e R s m args below meth c Qf S E H locs cells slots lsA hr hL hc hs hv)
theorem x_aloadZ {j : Nat} (d : decode (mB M) pc = .ok (.aload j, 2)) (h : List.lookup j ls = some .null) (kk : Ex G M Q X k n (pc + 2) ls (.null :: st) C) : Ex G M Q X k n pc ls st C := by
  intro p l e R s m args below meth c Qf S E H locs cells slots lsA hr hL hc hs hv
  obtain ⟨-, -, hx, hb, -⟩ := id S
  exact lv_aloadN hx hb d (hv.2.2 _ (lk_mem h)) (kk p l e R s m args below meth c Qf S E H locs cells slots lsA hr hL hc hs hv)
theorem x_astore_nZ {j : Fin 4} (d : decode (mB M) pc = .ok (.astore_n j, 1)) (h : (j : Nat) < mL M) (kk : Ex G M Q X k n (pc + 1) (lst1 (j : Nat) .null ls) st C) : Ex G M Q X k n pc ls (.null :: st) C := by
  intro p l e R s m args below meth c Qf S E H locs cells slots lsA hr hL hc hs hv
  obtain ⟨-, -, hx, hb, -⟩ := id S
  exact lv_astore_nN hx hb d rfl hv h rfl (fun l9 h9 => kk p l e R s m args below meth c Qf S E H locs cells slots l9 hr hL hc hs h9)
theorem x_astoreZ {j : Nat} (d : decode (mB M) pc = .ok (.astore j, 2)) (h : j < mL M) (kk : Ex G M Q X k n (pc + 2) (lst1 j .null ls) st C) : Ex G M Q X k n pc ls (.null :: st) C := by
  intro p l e R s m args below meth c Qf S E H locs cells slots lsA hr hL hc hs hv
  obtain ⟨-, -, hx, hb, -⟩ := id S
  exact lv_astoreN hx hb d hv h rfl (fun l9 h9 => kk p l e R s m args below meth c Qf S E H locs cells slots l9 hr hL hc hs h9)
end XN
