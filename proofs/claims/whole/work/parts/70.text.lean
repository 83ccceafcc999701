/-! the reference: a command, a text *)-/
theorem r_readCommand {G : GT} {C : AH} {Q : QT} {X : XT} {m n T l p : Nat} {S : Nat → Nat} {ρ : Rw} (hO : GO G) (hM : MdS C m) (hT : TM (gI C) m S n p true) (hn : n ≤ 120) (hS : ∀ i, i < n → S i < 256) (hp : p ≤ n) (hV : Vr (gI C) (m + 2) ρ) (h5 : gI C m 5 = nI l) (hk : Ok T ρ) (hU : T ≤ 48000) (hq : ∀ f : Nat → Nat → Int32, TM f m S n (pCmd S n p).2.1 (pCmd S n p).1 → ((pCmd S n p).1 = true → Vr f (m + 2) (dCmd (ch S n p) (pCmd S n p).2.2 ρ).2 ∧ f m 5 = nI (if (dCmd (ch S n p) (pCmd S n p).2.2 ρ).1 = true then l else l + 1)) → FT f (gI C) m → Q none (wI C f)) : Mt G M_X5_readCommand [.ref m] C Q X := by
  refine Mt_of (by decide) (Nat.le_of_ble_eq_true rfl) ?_
  obtain ⟨hm0, ⟨g1, g6, g7, g8, g9, g10, g12, g13, g14, g15, g16, g17, g18⟩, k1, k2, k3, k4, k5, k6, k7, k8, k9, k10, k11, k12, k13, hmz⟩ := id hM
  have hc9 : ch S n p ≤ 1000 := by
    unfold ch
    split
    · rename_i q
      have := hS p q
      omega
    · omega
  have key : ∀ v : Int32, (v = nI (ch S n p) ∨ (v = -1 ∧ ch S n p = 1000)) → Ex G M_X5_readCommand Q X (mC M_X5_readCommand) (mS M_X5_readCommand) 25 [(0, .ref m), (1, .int v)] [] C := by
    intro v hv
    by_cases h98 : ch S n p = 98
    · have e : v = nI 98 := by
        rcases hv with e | ⟨_, e⟩
        · rw [e, h98]
        · omega
      subst e
      refine x_aload_n dX5_readCommand_25 rfl ?_
      refine x_iload_n dX5_readCommand_26 rfl ?_
      refine x_bipush (v := nI 98) dX5_readCommand_27 (by decide) ?_
      refine x_icmp_eq (tgt := 50) dX5_readCommand_29 (by decide) (fun c29 => ?_) (fun c29 => ?_)
      · refine x_iconst (v := nI 1) dX5_readCommand_50 (by decide) ?_
        refine x_goto (tgt := 55) dX5_readCommand_51 (by decide) ?_
        refine x_callV (As := [_]) 7 hO dX5_readCommand_55 o_X5_accept v_X5_accept l_X5_152 ⟨by decide, by decide⟩ (by first | (simp only [gK_wI]; assumption) | assumption) ⟨by decide, by decide⟩ rfl ⟨by decide, by decide⟩ rfl rfl (Nat.le_of_ble_eq_true rfl) (r_accept (b := true) hO hM hT rfl (fun f55 t55 w55 => ?_))
        dsimp only [Option.toList, List.cons_append, List.nil_append]
        have x55 : f55 m 4 = 1 := t55.2.2.2
        have eC : pC S n 98 (s0 p) = (true, p + 1, fun _ => 0) := if_pos ⟨rfl, h98⟩
        have t55 : TM f55 m S n (pC S n 98 (s0 p)).2.1 (pC S n 98 (s0 p)).1 := by rw [eC]; exact t55
        have p55 : (pC S n 98 (s0 p)).2.1 ≤ n := (pC_le (S := S) (n := n) (c := 98) (s := s0 p) (by decide) hp).2
        have hV55 : Vr f55 (m + 2) ρ := Vr_to hV (funext fun j => w55 _ _ (by omega))
        have h555 : f55 m 5 = nI l := (w55 _ _ (by omega)).trans h5
        try simp only [wI_wI, gI_wI]
        refine x_aload_n dX5_readCommand_58 rfl ?_
        refine x_get 7 hO dX5_readCommand_59 f_X5_143 (by first | (simp only [gK_wI]; assumption) | assumption) ⟨by decide, by decide⟩ (v := .int 1) (congrArg Value.int x55) ?_
        refine x_if_ne (tgt := 66) dX5_readCommand_62 (by decide) (fun c62 => ?_) (fun c62 => ?_)
        · refine x_iload_n dX5_readCommand_66 rfl ?_
          refine x_bipush (v := nI 98) dX5_readCommand_67 (by decide) ?_
          refine x_icmp_ne (tgt := 79) dX5_readCommand_69 (by decide) (fun c69 => ?_) (fun c69 => ?_)
          · exact absurd rfl c69
          · refine x_aload_n dX5_readCommand_72 rfl ?_
            refine x_callV (As := []) 7 hO dX5_readCommand_73 o_X5_readBus v_X5_readBus l_X5_192 ⟨by decide, by decide⟩ (by first | (simp only [gK_wI]; assumption) | assumption) ⟨by decide, by decide⟩ rfl ⟨by decide, by decide⟩ rfl rfl (Nat.le_of_ble_eq_true rfl) (r_readBus (C := wI C f55) (s := pC S n 98 (s0 p)) hO (MdS_wI hM) t55 hn hS p55 hV55 h555 hk hU (fun f73 t73 v73 w73 => ?_))
            dsimp only [Option.toList, List.cons_append, List.nil_append]
            refine x_goto (tgt := 97) dX5_readCommand_76 (by decide) ?_
            refine x_ret dX5_readCommand_97 rfl ?_
            try simp only [wI_wI, gI_wI]
            simp only [gI_wI] at w73
            have hcmd : pCmd S n p = pN S n 0 23 4 (pN S n 0 23 3 (pN S n 1 400 2 (pN S n 0 400 1 (pN S n 10 400 0 (pW S n [98, 117, 115] (s0 p)))))) := by
              unfold pCmd
              exact if_pos h98
            refine hq f73 ?_ ?_ (FT_t w73 (FT_f w55))
            · rw [hcmd]
              exact t73
            · rw [hcmd, h98]
              exact v73
        · exact absurd c62 (by decide)
      · exact absurd rfl c29
    by_cases h112 : ch S n p = 112
    · have e : v = nI 112 := by
        rcases hv with e | ⟨_, e⟩
        · rw [e, h112]
        · omega
      subst e
      refine x_aload_n dX5_readCommand_25 rfl ?_
      refine x_iload_n dX5_readCommand_26 rfl ?_
      refine x_bipush (v := nI 98) dX5_readCommand_27 (by decide) ?_
      refine x_icmp_eq (tgt := 50) dX5_readCommand_29 (by decide) (fun c29 => ?_) (fun c29 => ?_)
      · exact absurd c29 (by decide)
      · refine x_iload_n dX5_readCommand_32 rfl ?_
        refine x_bipush (v := nI 112) dX5_readCommand_33 (by decide) ?_
        refine x_icmp_eq (tgt := 50) dX5_readCommand_35 (by decide) (fun c35 => ?_) (fun c35 => ?_)
        · refine x_iconst (v := nI 1) dX5_readCommand_50 (by decide) ?_
          refine x_goto (tgt := 55) dX5_readCommand_51 (by decide) ?_
          refine x_callV (As := [_]) 7 hO dX5_readCommand_55 o_X5_accept v_X5_accept l_X5_152 ⟨by decide, by decide⟩ (by first | (simp only [gK_wI]; assumption) | assumption) ⟨by decide, by decide⟩ rfl ⟨by decide, by decide⟩ rfl rfl (Nat.le_of_ble_eq_true rfl) (r_accept (b := true) hO hM hT rfl (fun f55 t55 w55 => ?_))
          dsimp only [Option.toList, List.cons_append, List.nil_append]
          have x55 : f55 m 4 = 1 := t55.2.2.2
          have eC : pC S n 112 (s0 p) = (true, p + 1, fun _ => 0) := if_pos ⟨rfl, h112⟩
          have t55 : TM f55 m S n (pC S n 112 (s0 p)).2.1 (pC S n 112 (s0 p)).1 := by rw [eC]; exact t55
          have p55 : (pC S n 112 (s0 p)).2.1 ≤ n := (pC_le (S := S) (n := n) (c := 112) (s := s0 p) (by decide) hp).2
          have hV55 : Vr f55 (m + 2) ρ := Vr_to hV (funext fun j => w55 _ _ (by omega))
          have h555 : f55 m 5 = nI l := (w55 _ _ (by omega)).trans h5
          try simp only [wI_wI, gI_wI]
          refine x_aload_n dX5_readCommand_58 rfl ?_
          refine x_get 7 hO dX5_readCommand_59 f_X5_143 (by first | (simp only [gK_wI]; assumption) | assumption) ⟨by decide, by decide⟩ (v := .int 1) (congrArg Value.int x55) ?_
          refine x_if_ne (tgt := 66) dX5_readCommand_62 (by decide) (fun c62 => ?_) (fun c62 => ?_)
          · refine x_iload_n dX5_readCommand_66 rfl ?_
            refine x_bipush (v := nI 98) dX5_readCommand_67 (by decide) ?_
            refine x_icmp_ne (tgt := 79) dX5_readCommand_69 (by decide) (fun c69 => ?_) (fun c69 => ?_)
            · refine x_iload_n dX5_readCommand_79 rfl ?_
              refine x_bipush (v := nI 115) dX5_readCommand_80 (by decide) ?_
              refine x_icmp_ne (tgt := 92) dX5_readCommand_82 (by decide) (fun c82 => ?_) (fun c82 => ?_)
              · refine x_aload_n dX5_readCommand_92 rfl ?_
                refine x_iload_n dX5_readCommand_93 rfl ?_
                refine x_callV (As := [_]) 7 hO dX5_readCommand_94 o_X5_readRest v_X5_readRest l_X5_198 ⟨by decide, by decide⟩ (by first | (simp only [gK_wI]; assumption) | assumption) ⟨by decide, by decide⟩ rfl ⟨by decide, by decide⟩ rfl rfl (Nat.le_of_ble_eq_true rfl) (r_readPlug (C := wI C f55) (s := pC S n 112 (s0 p)) hO (MdS_wI hM) t55 hn hS p55 hV55 h555 hk hU (fun f94 t94 v94 w94 => ?_))
                dsimp only [Option.toList, List.cons_append, List.nil_append]
                refine x_ret dX5_readCommand_97 rfl ?_
                try simp only [wI_wI, gI_wI]
                simp only [gI_wI] at w94
                have hcmd : pCmd S n p = pN S n 1 50 0 (pW S n [112, 108, 117, 103] (s0 p)) := by
                  unfold pCmd
                  exact (if_neg (by rw [h112]; decide)).trans (if_pos h112)
                refine hq f94 ?_ ?_ (FT_t w94 (FT_f w55))
                · rw [hcmd]
                  exact t94
                · rw [hcmd, h112]
                  exact v94
              · exact absurd c82 (by decide)
            · exact absurd c69 (by decide)
          · exact absurd c62 (by decide)
        · exact absurd rfl c35
    by_cases h114 : ch S n p = 114
    · have e : v = nI 114 := by
        rcases hv with e | ⟨_, e⟩
        · rw [e, h114]
        · omega
      subst e
      refine x_aload_n dX5_readCommand_25 rfl ?_
      refine x_iload_n dX5_readCommand_26 rfl ?_
      refine x_bipush (v := nI 98) dX5_readCommand_27 (by decide) ?_
      refine x_icmp_eq (tgt := 50) dX5_readCommand_29 (by decide) (fun c29 => ?_) (fun c29 => ?_)
      · exact absurd c29 (by decide)
      · refine x_iload_n dX5_readCommand_32 rfl ?_
        refine x_bipush (v := nI 112) dX5_readCommand_33 (by decide) ?_
        refine x_icmp_eq (tgt := 50) dX5_readCommand_35 (by decide) (fun c35 => ?_) (fun c35 => ?_)
        · exact absurd c35 (by decide)
        · refine x_iload_n dX5_readCommand_38 rfl ?_
          refine x_bipush (v := nI 114) dX5_readCommand_39 (by decide) ?_
          refine x_icmp_eq (tgt := 50) dX5_readCommand_41 (by decide) (fun c41 => ?_) (fun c41 => ?_)
          · refine x_iconst (v := nI 1) dX5_readCommand_50 (by decide) ?_
            refine x_goto (tgt := 55) dX5_readCommand_51 (by decide) ?_
            refine x_callV (As := [_]) 7 hO dX5_readCommand_55 o_X5_accept v_X5_accept l_X5_152 ⟨by decide, by decide⟩ (by first | (simp only [gK_wI]; assumption) | assumption) ⟨by decide, by decide⟩ rfl ⟨by decide, by decide⟩ rfl rfl (Nat.le_of_ble_eq_true rfl) (r_accept (b := true) hO hM hT rfl (fun f55 t55 w55 => ?_))
            dsimp only [Option.toList, List.cons_append, List.nil_append]
            have x55 : f55 m 4 = 1 := t55.2.2.2
            have eC : pC S n 114 (s0 p) = (true, p + 1, fun _ => 0) := if_pos ⟨rfl, h114⟩
            have t55 : TM f55 m S n (pC S n 114 (s0 p)).2.1 (pC S n 114 (s0 p)).1 := by rw [eC]; exact t55
            have p55 : (pC S n 114 (s0 p)).2.1 ≤ n := (pC_le (S := S) (n := n) (c := 114) (s := s0 p) (by decide) hp).2
            have hV55 : Vr f55 (m + 2) ρ := Vr_to hV (funext fun j => w55 _ _ (by omega))
            have h555 : f55 m 5 = nI l := (w55 _ _ (by omega)).trans h5
            try simp only [wI_wI, gI_wI]
            refine x_aload_n dX5_readCommand_58 rfl ?_
            refine x_get 7 hO dX5_readCommand_59 f_X5_143 (by first | (simp only [gK_wI]; assumption) | assumption) ⟨by decide, by decide⟩ (v := .int 1) (congrArg Value.int x55) ?_
            refine x_if_ne (tgt := 66) dX5_readCommand_62 (by decide) (fun c62 => ?_) (fun c62 => ?_)
            · refine x_iload_n dX5_readCommand_66 rfl ?_
              refine x_bipush (v := nI 98) dX5_readCommand_67 (by decide) ?_
              refine x_icmp_ne (tgt := 79) dX5_readCommand_69 (by decide) (fun c69 => ?_) (fun c69 => ?_)
              · refine x_iload_n dX5_readCommand_79 rfl ?_
                refine x_bipush (v := nI 115) dX5_readCommand_80 (by decide) ?_
                refine x_icmp_ne (tgt := 92) dX5_readCommand_82 (by decide) (fun c82 => ?_) (fun c82 => ?_)
                · refine x_aload_n dX5_readCommand_92 rfl ?_
                  refine x_iload_n dX5_readCommand_93 rfl ?_
                  refine x_callV (As := [_]) 7 hO dX5_readCommand_94 o_X5_readRest v_X5_readRest l_X5_198 ⟨by decide, by decide⟩ (by first | (simp only [gK_wI]; assumption) | assumption) ⟨by decide, by decide⟩ rfl ⟨by decide, by decide⟩ rfl rfl (Nat.le_of_ble_eq_true rfl) (r_readRun (C := wI C f55) (s := pC S n 114 (s0 p)) hO (MdS_wI hM) t55 hn hS p55 hV55 h555 hk hU (fun f94 t94 v94 w94 => ?_))
                  dsimp only [Option.toList, List.cons_append, List.nil_append]
                  refine x_ret dX5_readCommand_97 rfl ?_
                  try simp only [wI_wI, gI_wI]
                  simp only [gI_wI] at w94
                  have hcmd : pCmd S n p = pN S n 1 48 0 (pW S n [114, 117, 110] (s0 p)) := by
                    unfold pCmd
                    exact (if_neg (by rw [h114]; decide)).trans ((if_neg (by rw [h114]; decide)).trans (if_pos h114))
                  refine hq f94 ?_ ?_ (FT_t w94 (FT_f w55))
                  · rw [hcmd]
                    exact t94
                  · rw [hcmd, h114]
                    exact v94
                · exact absurd c82 (by decide)
              · exact absurd c69 (by decide)
            · exact absurd c62 (by decide)
          · exact absurd rfl c41
    by_cases h115 : ch S n p = 115
    · have e : v = nI 115 := by
        rcases hv with e | ⟨_, e⟩
        · rw [e, h115]
        · omega
      subst e
      refine x_aload_n dX5_readCommand_25 rfl ?_
      refine x_iload_n dX5_readCommand_26 rfl ?_
      refine x_bipush (v := nI 98) dX5_readCommand_27 (by decide) ?_
      refine x_icmp_eq (tgt := 50) dX5_readCommand_29 (by decide) (fun c29 => ?_) (fun c29 => ?_)
      · exact absurd c29 (by decide)
      · refine x_iload_n dX5_readCommand_32 rfl ?_
        refine x_bipush (v := nI 112) dX5_readCommand_33 (by decide) ?_
        refine x_icmp_eq (tgt := 50) dX5_readCommand_35 (by decide) (fun c35 => ?_) (fun c35 => ?_)
        · exact absurd c35 (by decide)
        · refine x_iload_n dX5_readCommand_38 rfl ?_
          refine x_bipush (v := nI 114) dX5_readCommand_39 (by decide) ?_
          refine x_icmp_eq (tgt := 50) dX5_readCommand_41 (by decide) (fun c41 => ?_) (fun c41 => ?_)
          · exact absurd c41 (by decide)
          · refine x_iload_n dX5_readCommand_44 rfl ?_
            refine x_bipush (v := nI 115) dX5_readCommand_45 (by decide) ?_
            refine x_icmp_ne (tgt := 54) dX5_readCommand_47 (by decide) (fun c47 => ?_) (fun c47 => ?_)
            · exact absurd rfl c47
            · refine x_iconst (v := nI 1) dX5_readCommand_50 (by decide) ?_
              refine x_goto (tgt := 55) dX5_readCommand_51 (by decide) ?_
              refine x_callV (As := [_]) 7 hO dX5_readCommand_55 o_X5_accept v_X5_accept l_X5_152 ⟨by decide, by decide⟩ (by first | (simp only [gK_wI]; assumption) | assumption) ⟨by decide, by decide⟩ rfl ⟨by decide, by decide⟩ rfl rfl (Nat.le_of_ble_eq_true rfl) (r_accept (b := true) hO hM hT rfl (fun f55 t55 w55 => ?_))
              dsimp only [Option.toList, List.cons_append, List.nil_append]
              have x55 : f55 m 4 = 1 := t55.2.2.2
              have eC : pC S n 115 (s0 p) = (true, p + 1, fun _ => 0) := if_pos ⟨rfl, h115⟩
              have t55 : TM f55 m S n (pC S n 115 (s0 p)).2.1 (pC S n 115 (s0 p)).1 := by rw [eC]; exact t55
              have p55 : (pC S n 115 (s0 p)).2.1 ≤ n := (pC_le (S := S) (n := n) (c := 115) (s := s0 p) (by decide) hp).2
              have hV55 : Vr f55 (m + 2) ρ := Vr_to hV (funext fun j => w55 _ _ (by omega))
              have h555 : f55 m 5 = nI l := (w55 _ _ (by omega)).trans h5
              try simp only [wI_wI, gI_wI]
              refine x_aload_n dX5_readCommand_58 rfl ?_
              refine x_get 7 hO dX5_readCommand_59 f_X5_143 (by first | (simp only [gK_wI]; assumption) | assumption) ⟨by decide, by decide⟩ (v := .int 1) (congrArg Value.int x55) ?_
              refine x_if_ne (tgt := 66) dX5_readCommand_62 (by decide) (fun c62 => ?_) (fun c62 => ?_)
              · refine x_iload_n dX5_readCommand_66 rfl ?_
                refine x_bipush (v := nI 98) dX5_readCommand_67 (by decide) ?_
                refine x_icmp_ne (tgt := 79) dX5_readCommand_69 (by decide) (fun c69 => ?_) (fun c69 => ?_)
                · refine x_iload_n dX5_readCommand_79 rfl ?_
                  refine x_bipush (v := nI 115) dX5_readCommand_80 (by decide) ?_
                  refine x_icmp_ne (tgt := 92) dX5_readCommand_82 (by decide) (fun c82 => ?_) (fun c82 => ?_)
                  · exact absurd rfl c82
                  · refine x_aload_n dX5_readCommand_85 rfl ?_
                    refine x_callV (As := []) 7 hO dX5_readCommand_86 o_X5_readSet v_X5_readSet l_X5_195 ⟨by decide, by decide⟩ (by first | (simp only [gK_wI]; assumption) | assumption) ⟨by decide, by decide⟩ rfl ⟨by decide, by decide⟩ rfl rfl (Nat.le_of_ble_eq_true rfl) (r_readSet (C := wI C f55) (s := pC S n 115 (s0 p)) hO (MdS_wI hM) t55 hn hS p55 hV55 h555 hk hU (fun f86 t86 v86 w86 => ?_))
                    dsimp only [Option.toList, List.cons_append, List.nil_append]
                    refine x_goto (tgt := 97) dX5_readCommand_89 (by decide) ?_
                    refine x_ret dX5_readCommand_97 rfl ?_
                    try simp only [wI_wI, gI_wI]
                    simp only [gI_wI] at w86
                    have hcmd : pCmd S n p = pN S n 0 999 1 (pN S n 0 5 0 (pW S n [115, 101, 116] (s0 p))) := by
                      unfold pCmd
                      exact (if_neg (by rw [h115]; decide)).trans ((if_neg (by rw [h115]; decide)).trans ((if_neg (by rw [h115]; decide)).trans (if_pos h115)))
                    refine hq f86 ?_ ?_ (FT_t w86 (FT_f w55))
                    · rw [hcmd]
                      exact t86
                    · rw [hcmd, h115]
                      exact v86
                · exact absurd c69 (by decide)
              · exact absurd c62 (by decide)
    have n98 : ¬ v = nI 98 := by
      rcases hv with e | ⟨e, _⟩
      · rw [e]
        exact fun q => h98 ((nI_eq (by omega) (by decide)).mp q)
      · rw [e]; decide
    have n112 : ¬ v = nI 112 := by
      rcases hv with e | ⟨e, _⟩
      · rw [e]
        exact fun q => h112 ((nI_eq (by omega) (by decide)).mp q)
      · rw [e]; decide
    have n114 : ¬ v = nI 114 := by
      rcases hv with e | ⟨e, _⟩
      · rw [e]
        exact fun q => h114 ((nI_eq (by omega) (by decide)).mp q)
      · rw [e]; decide
    have n115 : ¬ v = nI 115 := by
      rcases hv with e | ⟨e, _⟩
      · rw [e]
        exact fun q => h115 ((nI_eq (by omega) (by decide)).mp q)
      · rw [e]; decide
    have hcmd : pCmd S n p = (false, p, fun _ => 0) := by
      unfold pCmd
      exact (if_neg h98).trans ((if_neg h112).trans ((if_neg h114).trans (if_neg h115)))
    refine x_aload_n dX5_readCommand_25 rfl ?_
    refine x_iload_n dX5_readCommand_26 rfl ?_
    refine x_bipush (v := nI 98) dX5_readCommand_27 (by decide) ?_
    refine x_icmp_eq (tgt := 50) dX5_readCommand_29 (by decide) (fun c29 => ?_) (fun c29 => ?_)
    · exact absurd c29 n98
    · refine x_iload_n dX5_readCommand_32 rfl ?_
      refine x_bipush (v := nI 112) dX5_readCommand_33 (by decide) ?_
      refine x_icmp_eq (tgt := 50) dX5_readCommand_35 (by decide) (fun c35 => ?_) (fun c35 => ?_)
      · exact absurd c35 n112
      · refine x_iload_n dX5_readCommand_38 rfl ?_
        refine x_bipush (v := nI 114) dX5_readCommand_39 (by decide) ?_
        refine x_icmp_eq (tgt := 50) dX5_readCommand_41 (by decide) (fun c41 => ?_) (fun c41 => ?_)
        · exact absurd c41 n114
        · refine x_iload_n dX5_readCommand_44 rfl ?_
          refine x_bipush (v := nI 115) dX5_readCommand_45 (by decide) ?_
          refine x_icmp_ne (tgt := 54) dX5_readCommand_47 (by decide) (fun c47 => ?_) (fun c47 => ?_)
          · refine x_iconst (v := nI 0) dX5_readCommand_54 (by decide) ?_
            refine x_callV (As := [_]) 7 hO dX5_readCommand_55 o_X5_accept v_X5_accept l_X5_152 ⟨by decide, by decide⟩ (by first | (simp only [gK_wI]; assumption) | assumption) ⟨by decide, by decide⟩ rfl ⟨by decide, by decide⟩ rfl rfl (Nat.le_of_ble_eq_true rfl) (r_accept (b := false) hO hM hT rfl (fun f55 t55 w55 => ?_))
            dsimp only [Option.toList, List.cons_append, List.nil_append]
            have x55 : f55 m 4 = 0 := t55.2.2.2
            try simp only [wI_wI, gI_wI]
            refine x_aload_n dX5_readCommand_58 rfl ?_
            refine x_get 7 hO dX5_readCommand_59 f_X5_143 (by first | (simp only [gK_wI]; assumption) | assumption) ⟨by decide, by decide⟩ (v := .int 0) (congrArg Value.int x55) ?_
            refine x_if_ne (tgt := 66) dX5_readCommand_62 (by decide) (fun c62 => ?_) (fun c62 => ?_)
            · exact absurd rfl c62
            · refine x_ret dX5_readCommand_65 rfl ?_
              refine hq f55 ?_ ?_ (FT_f w55)
              · rw [hcmd]
                exact t55
              · rw [hcmd]
                exact fun q => absurd q Bool.false_ne_true
          · exact absurd c47 n115
  refine x_aload_n dX5_readCommand_0 rfl ?_
  refine x_get 7 hO dX5_readCommand_1 f_X5_140 (by first | (simp only [gK_wI]; assumption) | assumption) ⟨by decide, by decide⟩ (v := .int (nI p)) (congrArg Value.int hT.2.2.1) ?_
  refine x_aload_n dX5_readCommand_4 rfl ?_
  refine x_get 7 hO dX5_readCommand_5 f_X5_134 (by first | (simp only [gK_wI]; assumption) | assumption) ⟨by decide, by decide⟩ (v := .int (nI n)) (congrArg Value.int hT.1) ?_
  refine x_icmp_ge (tgt := 23) dX5_readCommand_8 (by decide) (fun c8 => ?_) (fun c8 => ?_)
  · simp (disch := omega) only [nI_leI] at c8
    refine x_iconst (v := (-1)) dX5_readCommand_23 (by decide) ?_
    refine x_istore_n dX5_readCommand_24 (by decide) ?_
    refine x_ls [(0, .ref m), (1, .int (-1))] ⟨rfl, rfl, trivial⟩ ?_
    exact key _ (Or.inr ⟨rfl, if_neg (by omega)⟩)
  · simp (disch := omega) only [nI_leI] at c8
    refine x_aload_n dX5_readCommand_11 rfl ?_
    refine x_get 7 hO dX5_readCommand_12 f_X5_7 (by first | (simp only [gK_wI]; assumption) | assumption) ⟨by decide, by decide⟩ (v := .ref (m + 1)) (congrArg va_rf g1) ?_
    refine x_aload_n dX5_readCommand_15 rfl ?_
    refine x_get 7 hO dX5_readCommand_16 f_X5_140 (by first | (simp only [gK_wI]; assumption) | assumption) ⟨by decide, by decide⟩ (v := .int (nI p)) (congrArg Value.int hT.2.2.1) ?_
    refine x_iald p 120 hO dX5_readCommand_19 k1.1 rfl k1.2 (by omega) (by decide) ?_
    refine x_goto (tgt := 24) dX5_readCommand_20 (by decide) ?_
    refine x_istore_n dX5_readCommand_24 (by decide) ?_
    refine x_ls [(0, .ref m), (1, .int (gI C (m + 1) p))] ⟨rfl, rfl, trivial⟩ ?_
    exact key _ (Or.inl ((hT.2.1 p (by omega)).trans (congrArg nI (if_pos (by omega)).symm)))

theorem r_readText {G : GT} {C : AH} {Q : QT} {X : XT} {m T n : Nat} {S : Nat → Nat} {ρ : Rw} {L : List Rw} {K : Nat → Option Rw} (hO : GO G) (hT : T ≤ 40000) (hR : RM T C m (S, n, ρ, L, K)) (hq : ∀ (r : Int32) (f : Nat → Nat → Int32), r = enc (pAll S n (n + 1) 0) → FT f (gI C) m → (pAll S n (n + 1) 0 = none → Vr f (m + 2) (dAll S n (n + 1) 0 (new0, 0)).1 ∧ f m 5 = nI (dAll S n (n + 1) 0 (new0, 0)).2 ∧ Ok 6000 (dAll S n (n + 1) 0 (new0, 0)).1) → Q (some (.int r)) (wI C f)) : Mt G M_X5_readText [.ref m] C Q X := by
  refine Mt_of (by decide) (Nat.le_of_ble_eq_true rfl) ?_
  obtain ⟨hk, hM, hv⟩ := id hR
  obtain ⟨hm0, ⟨g1, g6, g7, g8, g9, g10, g12, g13, g14, g15, g16, g17, g18⟩, k1, k2, k3, k4, k5, k6, k7, k8, k9, k10, k11, k12, k13, hmz⟩ := id hM
  obtain ⟨vn, vS, vN, vA, vH, vK⟩ : gI C m 2 = nI n ∧ (∀ i, i < n → gI C (m + 1) i = nI (S i)) ∧ Vr (gI C) (m + 4) ρ ∧ gI C m 11 = nI L.length ∧ (∀ i σ, L[i]? = some σ → Vo (gI C) (m + 6) (74 * i) σ) ∧ ∀ i, i < 2 → (K i = none → gI C (m + 8) i = 0) ∧ ∀ σ, K i = some σ → gI C (m + 8) i = 1 ∧ Vo (gI C) (m + 7) (74 * i) σ := hv
  obtain ⟨ok1, ok2, ok3, ok4, ok5, ok6⟩ : Ok T ρ ∧ (∀ σ, σ ∈ L → Ok T σ) ∧ (∀ i σ, K i = some σ → Ok T σ) ∧ n ≤ 120 ∧ (∀ i, i < n → S i < 256) ∧ L.length ≤ 14 := hk
  obtain ⟨hW, hB⟩ := id ok1
  obtain ⟨hb0, hb3, hb4, hb5, hb6, hb7⟩ := id hB
  obtain ⟨w1, w2, w7, w8, w9, w10, w11, w11', w12, wB, wP⟩ := id hW
  have hn := ok4
  have hS := ok5
  have endB : ∀ (f : Nat → Nat → Int32) (pp : Nat), TM f m S n pp false → FT f (gI C) m → pAll S n (n + 1) 0 = some pp → Ex G M_X5_readText Q X (mC M_X5_readText) (mS M_X5_readText) 68 [(0, .ref m)] [] (wI C f) := by
    intro f pp ht hF hA
    have x4 : f m 4 = 0 := ht.2.2.2
    refine x_aload_n dX5_readText_68 rfl ?_
    refine x_get 7 hO dX5_readText_69 f_X5_143 (by first | (simp only [gK_wI]; assumption) | assumption) ⟨by decide, by decide⟩ (v := .int (f m 4)) rfl ?_
    refine x_if_eq (tgt := 79) dX5_readText_72 (by decide) (fun c72 => ?_) (fun c72 => ?_)
    · refine x_aload_n dX5_readText_79 rfl ?_
      refine x_get 7 hO dX5_readText_80 f_X5_140 (by first | (simp only [gK_wI]; assumption) | assumption) ⟨by decide, by decide⟩ (v := .int (nI pp)) (congrArg Value.int ht.2.2.1) ?_
      refine x_iret dX5_readText_83 rfl rfl ?_
      exact hq _ f (by rw [hA]; rfl) hF (fun q => absurd (hA.symm.trans q) (by simp))
    · exact absurd x4 c72
  have endG : ∀ (f : Nat → Nat → Int32), f m 4 = 1 → FT f (gI C) m → pAll S n (n + 1) 0 = none → (Vr f (m + 2) (dAll S n (n + 1) 0 (new0, 0)).1 ∧ f m 5 = nI (dAll S n (n + 1) 0 (new0, 0)).2 ∧ Ok 6000 (dAll S n (n + 1) 0 (new0, 0)).1) → Ex G M_X5_readText Q X (mC M_X5_readText) (mS M_X5_readText) 68 [(0, .ref m)] [] (wI C f) := by
    intro f x4 hF hA hD
    refine x_aload_n dX5_readText_68 rfl ?_
    refine x_get 7 hO dX5_readText_69 f_X5_143 (by first | (simp only [gK_wI]; assumption) | assumption) ⟨by decide, by decide⟩ (v := .int (f m 4)) rfl ?_
    refine x_if_eq (tgt := 79) dX5_readText_72 (by decide) (fun c72 => ?_) (fun c72 => ?_)
    · exact absurd (x4.symm.trans c72) (by decide)
    · refine x_iconst (v := (-1)) dX5_readText_75 (by decide) ?_
      refine x_goto (tgt := 83) dX5_readText_76 (by decide) ?_
      refine x_iret dX5_readText_83 rfl rfl ?_
      exact hq _ f (by rw [hA]; rfl) hF (fun _ => hD)
  have endB26 : ∀ (f : Nat → Nat → Int32) (pp : Nat), TM f m S n pp false → FT f (gI C) m → pAll S n (n + 1) 0 = some pp → Ex G M_X5_readText Q X (mC M_X5_readText) (mS M_X5_readText) 26 [(0, .ref m)] [] (wI C f) := by
    intro f pp ht hF hA
    have x4 : f m 4 = 0 := ht.2.2.2
    refine x_aload_n dX5_readText_26 rfl ?_
    refine x_get 7 hO dX5_readText_27 f_X5_143 (by first | (simp only [gK_wI]; assumption) | assumption) ⟨by decide, by decide⟩ (v := .int (f m 4)) rfl ?_
    refine x_if_eq (tgt := 68) dX5_readText_30 (by decide) (fun c30 => ?_) (fun c30 => ?_)
    · exact endB f pp ht hF hA
    · exact absurd x4 c30
  have loop : ∀ (fu p : Nat) (σ : Rw × Nat) (f : Nat → Nat → Int32), p ≤ n → n ≤ fu + p → pAll S n (n + 1) 0 = pAll S n (fu + 1) p → dAll S n (n + 1) 0 (new0, 0) = dAll S n (fu + 1) p σ → Ok (48 * p) σ.1 → TM f m S n (pCmd S n p).2.1 (pCmd S n p).1 → ((pCmd S n p).1 = true → Vr f (m + 2) (one S n p σ).1 ∧ f m 5 = nI (one S n p σ).2) → FT f (gI C) m → Ex G M_X5_readText Q X (mC M_X5_readText) (mS M_X5_readText) 26 [(0, .ref m)] [] (wI C f) := by
    intro fu
    induction fu using Nat.strongRecOn with
    | _ fu loop => ?_
    intro p σ f hpn hfu hA hD hk ht hd hF
    have hle := pCmd_le (S := S) hpn
    refine x_aload_n dX5_readText_26 rfl ?_
    refine x_get 7 hO dX5_readText_27 f_X5_143 (by first | (simp only [gK_wI]; assumption) | assumption) ⟨by decide, by decide⟩ (v := .int (f m 4)) rfl ?_
    refine x_if_eq (tgt := 68) dX5_readText_30 (by decide) (fun c30 => ?_) (fun c30 => ?_)
    · have p30 := (ite01 ht.2.2.2).1 c30
      have hg : (pCmd S n p).1 = false := by
        cases e : (pCmd S n p).1 with
        | false => rfl
        | true => exact absurd e p30
      have hE : pAll S n (fu + 1) p = some (pCmd S n p).2.1 := if_neg p30
      rw [hg] at ht
      exact endB f _ ht hF (hA.trans hE)
    · have p30 := (ite01 ht.2.2.2).2 c30
      rw [p30] at ht
      obtain ⟨d1, d2⟩ := hd p30
      have hE : pAll S n (fu + 1) p = (if (pCmd S n p).2.1 = n then none else if ch S n (pCmd S n p).2.1 = 59 then pAll S n fu ((pCmd S n p).2.1 + 1) else some (pCmd S n p).2.1) := if_pos p30
      refine x_aload_n dX5_readText_33 rfl ?_
      refine x_get 7 hO dX5_readText_34 f_X5_140 (by first | (simp only [gK_wI]; assumption) | assumption) ⟨by decide, by decide⟩ (v := .int (nI (pCmd S n p).2.1)) (congrArg Value.int ht.2.2.1) ?_
      refine x_aload_n dX5_readText_37 rfl ?_
      refine x_get 7 hO dX5_readText_38 f_X5_134 (by first | (simp only [gK_wI]; assumption) | assumption) ⟨by decide, by decide⟩ (v := .int (nI n)) (congrArg Value.int ht.1) ?_
      refine x_icmp_ge (tgt := 68) dX5_readText_41 (by decide) (fun c41 => ?_) (fun c41 => ?_)
      · simp (disch := omega) only [nI_leI] at c41
        have hqn : (pCmd S n p).2.1 = n := by omega
        rw [if_pos hqn] at hE
        have hD2 : dAll S n (fu + 1) p σ = one S n p σ := if_pos hqn
        exact endG f (ht.2.2.2) hF (hA.trans hE) (by rw [hD, hD2]; exact ⟨d1, d2, Ok_mono (Ok_cmd hk (pCmd_rg p30)) (by omega)⟩)
      · simp (disch := omega) only [nI_leI] at c41
        have hqn : ¬ (pCmd S n p).2.1 = n := by omega
        rw [if_neg hqn] at hE
        have hD2 : dAll S n (fu + 1) p σ = dAll S n fu ((pCmd S n p).2.1 + 1) (one S n p σ) := if_neg hqn
        refine x_aload_n dX5_readText_44 rfl ?_
        refine x_aload_n dX5_readText_45 rfl ?_
        refine x_bipush (v := nI 59) dX5_readText_46 (by decide) ?_
        refine x_callV (As := [_]) 7 hO dX5_readText_48 o_X5_isNext v_X5_isNext l_X5_149 ⟨by decide, by decide⟩ (by first | (simp only [gK_wI]; assumption) | assumption) ⟨by decide, by decide⟩ rfl ⟨by decide, by decide⟩ rfl rfl (Nat.le_of_ble_eq_true rfl) (r_isNext (C := wI C f) hO (MdS_wI hM) ht hn hS hle.2 (by decide) (fun r48 hr48 => ?_))
        dsimp only [Option.toList, List.cons_append, List.nil_append]
        refine x_callV (As := [_]) 7 hO dX5_readText_51 o_X5_accept v_X5_accept l_X5_152 ⟨by decide, by decide⟩ (by first | (simp only [gK_wI]; assumption) | assumption) ⟨by decide, by decide⟩ rfl ⟨by decide, by decide⟩ rfl rfl (Nat.le_of_ble_eq_true rfl) (r_accept (C := wI C f) (b := decide (ch S n (pCmd S n p).2.1 = 59)) hO (MdS_wI hM) ht (by rw [hr48]; simp only [decide_eq_true_eq]) (fun f51 t51 w51 => ?_))
        dsimp only [Option.toList, List.cons_append, List.nil_append]
        simp only [gI_wI] at w51
        try simp only [wI_wI, gI_wI]
        refine x_aload_n dX5_readText_54 rfl ?_
        refine x_get 7 hO dX5_readText_55 f_X5_143 (by first | (simp only [gK_wI]; assumption) | assumption) ⟨by decide, by decide⟩ (v := .int (f51 m 4)) rfl ?_
        refine x_if_eq (tgt := 26) dX5_readText_58 (by decide) (fun c58 => ?_) (fun c58 => ?_)
        · have p58 := (ite01 t51.2.2.2).1 c58
          rw [Bool.true_and, decide_eq_true_eq] at p58
          rw [if_neg p58] at hE
          rw [decide_eq_false p58] at t51
          exact endB26 f51 _ t51 (FT_t (FT_f w51) hF) (hA.trans hE)
        · have p58 := (ite01 t51.2.2.2).2 c58
          rw [Bool.true_and, decide_eq_true_eq] at p58
          rw [if_pos p58] at hE
          rw [decide_eq_true p58] at t51
          obtain ⟨z, rfl⟩ : ∃ z, fu = z + 1 := ⟨fu - 1, by omega⟩
          have hV51 : Vr f51 (m + 2) (one S n p σ).1 := Vr_to d1 (funext fun j => w51 _ _ (by omega))
          have h551 : f51 m 5 = nI (one S n p σ).2 := (w51 _ _ (by omega)).trans d2
          have hOk2 : Ok (48 * ((pCmd S n p).2.1 + 1)) (one S n p σ).1 := Ok_mono (Ok_cmd hk (pCmd_rg p30)) (by omega)
          refine x_aload_n dX5_readText_61 rfl ?_
          refine x_callV (As := []) 7 hO dX5_readText_62 o_X5_readCommand v_X5_readCommand l_X5_202 ⟨by decide, by decide⟩ (by first | (simp only [gK_wI]; assumption) | assumption) ⟨by decide, by decide⟩ rfl ⟨by decide, by decide⟩ rfl rfl (Nat.le_of_ble_eq_true rfl) (r_readCommand (C := wI C f51) (p := (pCmd S n p).2.1 + 1) (T := 48 * ((pCmd S n p).2.1 + 1)) hO (MdS_wI hM) t51 hn hS (by omega) hV51 h551 hOk2 (by omega) (fun f62 t62 v62 w62 => ?_))
          dsimp only [Option.toList, List.cons_append, List.nil_append]
          simp only [gI_wI] at w62
          try simp only [wI_wI, gI_wI]
          refine x_goto (tgt := 26) dX5_readText_65 (by decide) ?_
          exact loop z (by omega) ((pCmd S n p).2.1 + 1) (one S n p σ) f62 (by omega) (by omega) (hA.trans hE) (hD.trans hD2) hOk2 t62 v62 (FT_t w62 (FT_t (FT_f w51) hF))
  refine x_aload_n dX5_readText_0 rfl ?_
  refine x_iconst (v := nI 0) dX5_readText_1 (by decide) ?_
  refine x_putI 7 hO dX5_readText_2 f_X5_140 (fw_7_3 _) (by first | (simp only [gK_wI]; assumption) | assumption) ⟨by decide, by decide⟩ rfl rfl ?_
  refine x_aload_n dX5_readText_5 rfl ?_
  refine x_iconst (v := nI 1) dX5_readText_6 (by decide) ?_
  refine x_putZ 7 hO dX5_readText_7 f_X5_143 (fw_7_4 _) (by first | (simp only [gK_wI]; assumption) | assumption) ⟨by decide, by decide⟩ rfl (by first | exact Or.inl rfl | exact Or.inr rfl | assumption) ?_
  refine x_aload_n dX5_readText_10 rfl ?_
  refine x_iconst (v := nI 0) dX5_readText_11 (by decide) ?_
  refine x_putI 7 hO dX5_readText_12 f_X5_164 (fw_7_5 _) (by first | (simp only [gK_wI]; assumption) | assumption) ⟨by decide, by decide⟩ rfl rfl ?_
  refine x_aload_n dX5_readText_15 rfl ?_
  refine x_get 7 hO dX5_readText_16 f_X5_13 (by first | (simp only [gK_wI]; assumption) | assumption) ⟨by decide, by decide⟩ (v := .ref (m + 2)) (congrArg va_rf g6) ?_
  refine x_callS (As := [_]) hO dX5_readText_19 o_X5_clean s_X5_clean l_X5_50 ⟨by decide, by decide⟩ ⟨by decide, by decide⟩ rfl rfl (Nat.le_of_ble_eq_true rfl) (r_clean (ρ := ρ) hO k2 (fun f19 v19 r19 => ?_))
  dsimp only [Option.toList, List.cons_append, List.nil_append]
  simp only [gI_wI] at r19
  try simp only [wI_wI, gI_wI]
  have r19 : ∀ b, b ≠ m + 2 → f19 b = (up2 (up2 (up2 (gI C) m 3 (nI 0)) m 4 (nI 1)) m 5 (nI 0)) b := r19
  have FP : FT (up2 (up2 (up2 (gI C) m 3 (nI 0)) m 4 (nI 1)) m 5 (nI 0)) (gI C) m := ⟨fun x q _ _ _ => by rw [up2_f q, up2_f q, up2_f q], fun j q1 q2 q3 => by rw [up2_n (by omega), up2_n (by omega), up2_n (by omega)]⟩
  have tt : TM f19 m S n 0 true := by
    refine ⟨?_, fun i hi => ?_, ?_, ?_⟩
    · rw [r19 m (by omega), up2_n (by omega), up2_n (by omega), up2_n (by omega)]
      exact vn
    · rw [r19 (m + 1) (by omega), up2_f (by omega), up2_f (by omega), up2_f (by omega)]
      exact vS i hi
    · rw [r19 m (by omega), up2_n (by omega), up2_n (by omega), up2_s]
    · rw [r19 m (by omega), up2_n (by omega), up2_s]
      rfl
  have x5 : f19 m 5 = nI 0 := by rw [r19 m (by omega), up2_s]
  refine x_aload_n dX5_readText_22 rfl ?_
  refine x_callV (As := []) 7 hO dX5_readText_23 o_X5_readCommand v_X5_readCommand l_X5_202 ⟨by decide, by decide⟩ (by first | (simp only [gK_wI]; assumption) | assumption) ⟨by decide, by decide⟩ rfl ⟨by decide, by decide⟩ rfl rfl (Nat.le_of_ble_eq_true rfl) (r_readCommand (C := wI C f19) (p := 0) (T := 0) (l := 0) hO (MdS_wI hM) tt ok4 ok5 (Nat.zero_le _) v19 x5 Ok_new (by decide) (fun f23 t23 v23 w23 => ?_))
  dsimp only [Option.toList, List.cons_append, List.nil_append]
  simp only [gI_wI] at w23
  try simp only [wI_wI, gI_wI]
  exact loop n 0 (new0, 0) f23 (Nat.zero_le _) (by omega) rfl rfl Ok_new t23 v23 (FT_t w23 (FT_t (FT_2 (fun x q _ => r19 x q)) FP))

theorem r_errorPosition {G : GT} {C : AH} {Q : QT} {X : XT} {m T n : Nat} {S : Nat → Nat} {ρ : Rw} {L : List Rw} {K : Nat → Option Rw} (hO : GO G) (hT : T ≤ 40000) (hR : RM T C m (S, n, ρ, L, K)) (hq : ∀ (r : Int32) (f : Nat → Nat → Int32), RM (T) (wI C f) m (aError (S, n, ρ, L, K)).2.2 → (∀ a, (a < m ∨ m + 14 ≤ a) → f a = gI C a) → f m 0 = nI (aError (S, n, ρ, L, K)).1 → ((aError (S, n, ρ, L, K)).1 = 0 → r = (aError (S, n, ρ, L, K)).2.1) → Q (some (.int r)) (wI C f)) : Mt G M_X5_errorPosition [.ref m] C Q X := by
  refine Mt_of (by decide) (Nat.le_of_ble_eq_true rfl) ?_
  obtain ⟨hk, hM, hv⟩ := id hR
  obtain ⟨hm0, ⟨g1, g6, g7, g8, g9, g10, g12, g13, g14, g15, g16, g17, g18⟩, k1, k2, k3, k4, k5, k6, k7, k8, k9, k10, k11, k12, k13, hmz⟩ := id hM
  obtain ⟨vn, vS, vN, vA, vH, vK⟩ : gI C m 2 = nI n ∧ (∀ i, i < n → gI C (m + 1) i = nI (S i)) ∧ Vr (gI C) (m + 4) ρ ∧ gI C m 11 = nI L.length ∧ (∀ i σ, L[i]? = some σ → Vo (gI C) (m + 6) (74 * i) σ) ∧ ∀ i, i < 2 → (K i = none → gI C (m + 8) i = 0) ∧ ∀ σ, K i = some σ → gI C (m + 8) i = 1 ∧ Vo (gI C) (m + 7) (74 * i) σ := hv
  obtain ⟨ok1, ok2, ok3, ok4, ok5, ok6⟩ : Ok T ρ ∧ (∀ σ, σ ∈ L → Ok T σ) ∧ (∀ i σ, K i = some σ → Ok T σ) ∧ n ≤ 120 ∧ (∀ i, i < n → S i < 256) ∧ L.length ≤ 14 := hk
  obtain ⟨hW, hB⟩ := id ok1
  obtain ⟨hb0, hb3, hb4, hb5, hb6, hb7⟩ := id hB
  obtain ⟨w1, w2, w7, w8, w9, w10, w11, w11', w12, wB, wP⟩ := id hW
  have hR0 : RM T (wI C (up2 (gI C) m 0 (nI 0))) m (S, n, ρ, L, K) := RM_to hR (up2_n (by omega)) (up2_n (by omega)) (fun k hk => up2_f (by omega))
  refine x_aload_n dX5_errorPosition_0 rfl ?_
  refine x_iconst (v := nI 0) dX5_errorPosition_1 (by decide) ?_
  refine x_putI 7 hO dX5_errorPosition_2 f_X5_54 (fw_7_0 _) (by first | (simp only [gK_wI]; assumption) | assumption) ⟨by decide, by decide⟩ rfl rfl ?_
  refine x_aload_n dX5_errorPosition_5 rfl ?_
  refine x_callV (As := []) 7 hO dX5_errorPosition_6 o_X5_readText v_X5_readText l_X5_205 ⟨by decide, by decide⟩ (by first | (simp only [gK_wI]; assumption) | assumption) ⟨by decide, by decide⟩ rfl ⟨by decide, by decide⟩ rfl rfl (Nat.le_of_ble_eq_true rfl) (r_readText (C := wI C (up2 (gI C) m 0 (nI 0))) hO hT hR0 (fun r6 f6 hr6 w6 d6 => ?_))
  dsimp only [Option.toList, List.cons_append, List.nil_append]
  refine x_iret dX5_errorPosition_9 rfl rfl ?_
  have w6 : FT f6 (up2 (gI C) m 0 (nI 0)) m := w6
  have eA : aError (S, n, ρ, L, K) = (0, enc (pAll S n (n + 1) 0), (S, n, ρ, L, K)) := rfl
  refine hq _ f6 ?_ (fun a ha => (w6.1 a (by omega) (by omega) (by omega) (by omega)).trans (up2_f (by omega))) ?_ ?_
  · rw [eA]
    exact RM_to (C := C) hR ((w6.2 2 (by decide) (by decide) (by decide)).trans (up2_n (by omega))) ((w6.2 11 (by decide) (by decide) (by decide)).trans (up2_n (by omega))) (fun k hk => (w6.1 _ (by omega) (by omega) (by omega) (by omega)).trans (up2_f (by omega)))
  · rw [eA]
    exact (w6.2 0 (by decide) (by decide) (by decide)).trans up2_s
  · rw [eA]
    exact fun _ => hr6

theorem pAll_n {S : Nat → Nat} {n q : Nat} : ∀ {fu p : Nat}, pAll S n fu p = some q → p ≤ n → q ≤ n := by
  intro fu
  induction fu with
  | zero => intro p h hp; injection h with h; omega
  | succ fu ih =>
    intro p h hp
    have hle := (pCmd_le (S := S) hp).2
    unfold pAll at h
    split at h
    · split at h
      · exact absurd h (by simp)
      · split at h
        · exact ih h (by omega)
        · injection h with h; omega
    · injection h with h; omega
theorem t_ref5 {G : GT} {C : AH} {Q : QT} {X : XT} {m T t : Nat} {s : St} (hO : GO G) (hR : RM T C m s) (ht : t < 5) (hq : ∀ (r : Int32) (f : Nat → Nat → Int32), r = (if 0 < t then 1 else 0) → f m 0 = nI t → f m 5 = gI C m 5 → RM T (wI C f) m s → (∀ a, a ≠ m → f a = gI C a) → Q (some (.int r)) (wI C f)) : Mt G M_X5_refused [.ref m, .int (nI t)] C Q X :=
  r_ref hO hR.2.1 ht fun r hr => hq r _ hr up2_s (up2_n (by omega)) (RM_to hR (up2_n (by omega)) (up2_n (by omega)) fun k hk => up2_f (by omega)) fun a ha => up2_f ha
theorem r_load {G : GT} {C : AH} {Q : QT} {X : XT} {m T n : Nat} {S : Nat → Nat} {ρ : Rw} {L : List Rw} {K : Nat → Option Rw} (hO : GO G) (hT : T ≤ 40000) (hR : RM T C m (S, n, ρ, L, K)) (h6 : 6000 ≤ T) (hq : ∀ (r : Int32) (f : Nat → Nat → Int32), RM (T) (wI C f) m (aLoad (S, n, ρ, L, K)).2.2 → (∀ a, (a < m ∨ m + 14 ≤ a) → f a = gI C a) → f m 0 = nI (aLoad (S, n, ρ, L, K)).1 → ((aLoad (S, n, ρ, L, K)).1 = 0 → r = (aLoad (S, n, ρ, L, K)).2.1) → Q (some (.int r)) (wI C f)) : Mt G M_X5_load [.ref m] C Q X := by
  refine Mt_of (by decide) (Nat.le_of_ble_eq_true rfl) ?_
  obtain ⟨hk, hM, hv⟩ := id hR
  obtain ⟨hm0, ⟨g1, g6, g7, g8, g9, g10, g12, g13, g14, g15, g16, g17, g18⟩, k1, k2, k3, k4, k5, k6, k7, k8, k9, k10, k11, k12, k13, hmz⟩ := id hM
  obtain ⟨vn, vS, vN, vA, vH, vK⟩ : gI C m 2 = nI n ∧ (∀ i, i < n → gI C (m + 1) i = nI (S i)) ∧ Vr (gI C) (m + 4) ρ ∧ gI C m 11 = nI L.length ∧ (∀ i σ, L[i]? = some σ → Vo (gI C) (m + 6) (74 * i) σ) ∧ ∀ i, i < 2 → (K i = none → gI C (m + 8) i = 0) ∧ ∀ σ, K i = some σ → gI C (m + 8) i = 1 ∧ Vo (gI C) (m + 7) (74 * i) σ := hv
  obtain ⟨ok1, ok2, ok3, ok4, ok5, ok6⟩ : Ok T ρ ∧ (∀ σ, σ ∈ L → Ok T σ) ∧ (∀ i σ, K i = some σ → Ok T σ) ∧ n ≤ 120 ∧ (∀ i, i < n → S i < 256) ∧ L.length ≤ 14 := hk
  obtain ⟨hW, hB⟩ := id ok1
  obtain ⟨hb0, hb3, hb4, hb5, hb6, hb7⟩ := id hB
  obtain ⟨w1, w2, w7, w8, w9, w10, w11, w11', w12, wB, wP⟩ := id hW
  refine x_aload_n dX5_load_0 rfl ?_
  refine x_aload_n dX5_load_1 rfl ?_
  refine x_callV (As := []) 7 hO dX5_load_2 o_X5_readText v_X5_readText l_X5_205 ⟨by decide, by decide⟩ (by first | (simp only [gK_wI]; assumption) | assumption) ⟨by decide, by decide⟩ rfl ⟨by decide, by decide⟩ rfl rfl (Nat.le_of_ble_eq_true rfl) (r_readText hO hT hR (fun r2 f2 hr2 w2 d2 => ?_))
  dsimp only [Option.toList, List.cons_append, List.nil_append]
  try simp only [wI_wI, gI_wI]
  have hR2 : RM T (wI C f2) m (S, n, ρ, L, K) := RM_to hR (w2.2 2 (by decide) (by decide) (by decide)) (w2.2 11 (by decide) (by decide) (by decide)) (fun k hk => w2.1 _ (by omega) (by omega) (by omega) (by omega))
  refine x_iconst (v := (-1)) dX5_load_5 (by decide) ?_
  refine x_icmp_ne (tgt := 13) dX5_load_6 (by decide) (fun c6 => ?_) (fun c6 => ?_)
  · refine x_iconst (v := nI 1) dX5_load_13 (by decide) ?_
    refine x_callV (As := [_]) 7 hO dX5_load_14 o_X5_refused v_X5_refused l_X5_137 ⟨by decide, by decide⟩ (by first | (simp only [gK_wI]; assumption) | assumption) ⟨by decide, by decide⟩ rfl ⟨by decide, by decide⟩ rfl rfl (Nat.le_of_ble_eq_true rfl) (t_ref5 (C := wI C f2) hO hR2 (by decide) (fun r14 f14 hr14 z14 x514 hR1 fr14 => ?_))
    dsimp only [Option.toList, List.cons_append, List.nil_append]
    refine x_if_eq (tgt := 22) dX5_load_17 (by decide) (fun c17 => ?_) (fun c17 => ?_)
    · exact absurd (c17.symm.trans (hr14.trans (if_pos (by decide)))) (by decide)
    · have p14 := (ite01 hr14).2 c17
      refine x_iconst (v := nI 0) dX5_load_20 (by decide) ?_
      refine x_iret dX5_load_21 rfl rfl ?_
      obtain ⟨q, hA⟩ : ∃ q, pAll S n (n + 1) 0 = some q := by
        cases e : pAll S n (n + 1) 0 with
        | none => rw [e] at hr2; exact absurd hr2 c6
        | some q => exact ⟨q, rfl⟩
      have eA : aLoad (S, n, ρ, L, K) = (1, 0, (S, n, ρ, L, K)) := by
        unfold aLoad
        dsimp only
        rw [hA]
      simp only [gI_wI] at fr14
      refine hq _ f14 ?_ (fun a ha => (fr14 a (by omega)).trans (w2.1 a (by omega) (by omega) (by omega) (by omega))) ?_ ?_
      · rw [eA]
        exact hR1
      · rw [eA]
        exact z14
      · rw [eA]
        exact fun h => absurd h (Nat.succ_ne_zero _)
  · refine x_iconst (v := nI 0) dX5_load_9 (by decide) ?_
    refine x_goto (tgt := 14) dX5_load_10 (by decide) ?_
    refine x_callV (As := [_]) 7 hO dX5_load_14 o_X5_refused v_X5_refused l_X5_137 ⟨by decide, by decide⟩ (by first | (simp only [gK_wI]; assumption) | assumption) ⟨by decide, by decide⟩ rfl ⟨by decide, by decide⟩ rfl rfl (Nat.le_of_ble_eq_true rfl) (t_ref5 (C := wI C f2) hO hR2 (by decide) (fun r14 f14 hr14 z14 x514 hR1 fr14 => ?_))
    dsimp only [Option.toList, List.cons_append, List.nil_append]
    refine x_if_eq (tgt := 22) dX5_load_17 (by decide) (fun c17 => ?_) (fun c17 => ?_)
    · have p14 := (ite01 hr14).1 c17
      have hA : pAll S n (n + 1) 0 = none := by
        cases e : pAll S n (n + 1) 0 with
        | none => rfl
        | some q =>
          rw [e] at hr2
          have := pAll_n e (Nat.zero_le _)
          exact absurd (hr2.symm.trans c6) (nI_m1 (by omega))
      obtain ⟨dV, d5, dk⟩ := d2 hA
      simp only [gI_wI] at fr14
      refine x_aload_n dX5_load_22 rfl ?_
      refine x_get 7 hO dX5_load_23 f_X5_13 (by first | (simp only [gK_wI]; assumption) | assumption) ⟨by decide, by decide⟩ (v := .ref (m + 2)) (congrArg va_rf g6) ?_
      refine x_iconst (v := nI 0) dX5_load_26 (by decide) ?_
      refine x_aload_n dX5_load_27 rfl ?_
      refine x_get 7 hO dX5_load_28 f_X5_19 (by first | (simp only [gK_wI]; assumption) | assumption) ⟨by decide, by decide⟩ (v := .ref (m + 4)) (congrArg va_rf g8) ?_
      refine x_iconst (v := nI 0) dX5_load_31 (by decide) ?_
      refine x_bipush (v := nI 74) dX5_load_32 (by decide) ?_
      refine x_callS (As := [_, _, _, _, _]) hO dX5_load_34 o_X5_copy s_X5_copy l_X5_63 ⟨by decide, by decide⟩ ⟨by decide, by decide⟩ rfl rfl (Nat.le_of_ble_eq_true rfl) (r_copy (C := wI C f14) (sp := 0) (dp := 0) (n := 74) hO k2 k4 (by decide) (by decide) (by decide) (by decide) (Or.inl (by omega)) (fun f h1 h2 h3 => ?_))
      dsimp only [Option.toList, List.cons_append, List.nil_append]
      simp only [gI_wI] at h1 h2 h3
      try simp only [wI_wI, gI_wI]
      have vN2 : Vr f (m + 4) (dAll S n (n + 1) 0 (new0, 0)).1 := fun j hj => by
        have e := h1 j hj
        rw [Nat.zero_add] at e
        rw [e, fr14 _ (by omega)]
        exact dV j hj
      refine x_aload_n dX5_load_37 rfl ?_
      refine x_iconst (v := nI 0) dX5_load_38 (by decide) ?_
      refine x_putI 7 hO dX5_load_39 f_X5_60 (fw_7_11 _) (by first | (simp only [gK_wI]; assumption) | assumption) ⟨by decide, by decide⟩ rfl rfl ?_
      try simp only [wI_wI, gI_wI]
      refine x_aload_n dX5_load_42 rfl ?_
      refine x_get 7 hO dX5_load_43 f_X5_31 (by first | (simp only [gK_wI]; assumption) | assumption) ⟨by decide, by decide⟩ (v := .ref (m + 8)) (congrArg va_rf g13) ?_
      refine x_iconst (v := nI 0) dX5_load_46 (by decide) ?_
      refine x_iconst (v := nI 0) dX5_load_47 (by decide) ?_
      refine x_zast 0 2 (Or.inl rfl) hO dX5_load_48 k8.1 rfl k8.2 (by decide) (by decide) ?_
      try simp only [wI_wI, gI_wI]
      refine x_aload_n dX5_load_49 rfl ?_
      refine x_get 7 hO dX5_load_50 f_X5_31 (by first | (simp only [gK_wI]; assumption) | assumption) ⟨by decide, by decide⟩ (v := .ref (m + 8)) (congrArg va_rf g13) ?_
      refine x_iconst (v := nI 1) dX5_load_53 (by decide) ?_
      refine x_iconst (v := nI 0) dX5_load_54 (by decide) ?_
      refine x_zast 1 2 (Or.inl rfl) hO dX5_load_55 k8.1 rfl k8.2 (by decide) (by decide) ?_
      refine x_aload_n dX5_load_56 rfl ?_
      refine x_get 7 hO dX5_load_57 f_X5_164 (by first | (simp only [gK_wI]; assumption) | assumption) ⟨by decide, by decide⟩ (v := .int _) rfl ?_
      refine x_iret dX5_load_60 rfl rfl ?_
      try simp only [wI_wI, gI_wI]
      obtain ⟨F, hF⟩ : ∃ F, up2 (up2 (up2 f m 11 (nI 0)) (m + 8) 0 (nI 0)) (m + 8) 1 (nI 0) = F := ⟨_, rfl⟩
      have hF1 : ∀ a, a ≠ m → a ≠ m + 8 → F a = f a := fun a q1 q2 => by rw [← hF, up2_f q2, up2_f q2, up2_f q1]
      have hF2 : ∀ j, j ≠ 11 → F m j = f m j := fun j q => by rw [← hF, up2_n (by omega), up2_n (by omega), up2_n (by omega)]
      have hF3 : F m 11 = nI 0 := by rw [← hF, up2_n (by omega), up2_n (by omega), up2_s]
      have hF4 : ∀ i, i < 2 → F (m + 8) i = 0 := fun i hi => by
        by_cases e : i = 1
        · subst e; rw [← hF, up2_s]; rfl
        · have : i = 0 := by omega
          subst this
          rw [← hF, up2_n (by omega), up2_s]; rfl
      rw [hF]
      have eA : aLoad (S, n, ρ, L, K) = (0, nI (dAll S n (n + 1) 0 (new0, 0)).2, (S, n, (dAll S n (n + 1) 0 (new0, 0)).1, [], fun _ => none)) := by
        unfold aLoad
        dsimp only
        rw [hA]
      have hX : ∀ a, a ≠ m → a ≠ m + 4 → a ≠ m + 8 → F a = f2 a := fun a q1 q2 q3 => (hF1 a q1 q3).trans ((h3 a q2).trans (fr14 a q1))
      refine hq _ F ?_ (fun a ha => (hX a (by omega) (by omega) (by omega)).trans (w2.1 a (by omega) (by omega) (by omega) (by omega))) ?_ ?_
      · rw [eA]
        refine ⟨⟨Ok_mono dk h6, fun τ ht => absurd ht (by simp), fun i τ h => absurd h (by simp), ok4, ok5, Nat.zero_le 14⟩, hM, ?_, fun i hi => ?_, ?_, hF3, fun i τ h => absurd h (by simp), fun i hi => ⟨fun _ => hF4 i hi, fun τ h => absurd h (by simp)⟩⟩
        · exact ((hF2 2 (by decide)).trans (congrFun (h3 m (by omega)) 2)).trans hR1.2.2.1
        · exact (congrFun ((hF1 (m + 1) (by omega) (by omega)).trans (h3 (m + 1) (by omega))) i).trans (hR1.2.2.2.1 i hi)
        · exact Vr_to vN2 (hF1 _ (by omega) (by omega))
      · rw [eA]
        exact ((hF2 0 (by decide)).trans (congrFun (h3 m (by omega)) 0)).trans z14
      · rw [eA]
        exact fun _ => ((hF2 5 (by decide)).trans ((congrFun (h3 m (by omega)) 5).trans (x514.trans d5)))
    · exact absurd (hr14.trans (if_neg (by decide))) c17

