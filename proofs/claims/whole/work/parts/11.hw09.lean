section M_X10_howMany
variable {p : Program} {l : Launch} {e : Env} {s : State} {m : MethodId} {args : Array Value} {below : List Frame} {meth : Method} {c : Code} {Q : State → Prop} {A : Nat → Prop} {D : va_G} {cI cB cT : ClassId}
variable {a_h a_t a_t_w a_t_w_codes a_t_w_masks a_t_w_alike a_t_w_havers a_t_g a_t_n a_t_n_cells a_t_m a_t_m_cells a_t_p a_t_p_cells a_im a_k a_k_bytes a_r a_d a_d_w a_d_w_codes a_d_w_masks a_d_w_alike a_d_w_havers a_d_g a_d_n a_d_n_cells a_d_m a_d_m_cells a_d_p a_d_p_cells a_fr a_su a_su_fewest a_tr a_wp a_sk : Nat}
def rm_X10_howMany : Room := { frames := 2, cells := 0, slots := 0, locals := 40 }
def f_X10_howMany (t_kind : Int32) (t_secret : Int32) (t_w_size : Int32) (t_g_left : Int32) (t_g_guessed : Int32) (t_g_wrong : Int32) (t_n_size : Int32) (t_m_size : Int32) (t_p_size : Int32) (k_size : Int32) (p1 : Int32) : Option (Int32) := (if p1 = (0 : Int32) then some t_w_size else (if p1 = (1 : Int32) then ((f_J6_bitCount_0f7a4 t_g_left).bind fun o3 => some o3) else (if p1 = (2 : Int32) then ((f_X1_guesses t_g_guessed).bind fun o6 => some o6) else (if p1 = (3 : Int32) then some t_g_wrong else (if p1 = (4 : Int32) then some t_secret else (if p1 = (5 : Int32) then some t_kind else (if p1 = (6 : Int32) then some t_n_size else (if p1 = (7 : Int32) then some t_m_size else (if p1 = (8 : Int32) then some t_p_size else some k_size)))))))))
set_option maxHeartbeats 4000000 in
set_option maxRecDepth 100000 in
theorem c_X10_howMany (l : Launch) (D : va_G) (cI cB cT : ClassId) (a_h a_t a_t_w a_t_w_codes a_t_w_masks a_t_w_alike a_t_w_havers a_t_g a_t_n a_t_n_cells a_t_m a_t_m_cells a_t_p a_t_p_cells a_im a_k a_k_bytes a_r a_d a_d_w a_d_w_codes a_d_w_masks a_d_w_alike a_d_w_havers a_d_g a_d_n a_d_n_cells a_d_m a_d_m_cells a_d_p a_d_p_cells a_fr a_su a_su_fewest a_tr a_wp a_sk : Nat) (rb : Int32) (rn : Int32) (rf : Int32) (t_kind : Int32) (t_secret : Int32) (t_w_size : Int32) (t_w_codes : (Nat → Int32)) (t_w_masks : (Nat → Int32)) (t_w_alike : (Nat → Int32)) (t_w_havers : (Nat → Int32)) (t_g_left : Int32) (t_g_guessed : Int32) (t_g_wrong : Int32) (t_n_size : Int32) (t_n_cells : (Nat → Int32)) (t_m_size : Int32) (t_m_cells : (Nat → Int32)) (t_p_size : Int32) (t_p_cells : (Nat → Int32)) (im : (Nat → Option Nat)) (k_size : Int32) (k_place : Int32) (k_sort : Int32) (k_number : Int32) (k_behind : Int32) (k_bytes : (Nat → Int32)) (d_kind : Int32) (d_secret : Int32) (d_w_size : Int32) (d_w_codes : (Nat → Int32)) (d_w_masks : (Nat → Int32)) (d_w_alike : (Nat → Int32)) (d_w_havers : (Nat → Int32)) (d_g_left : Int32) (d_g_guessed : Int32) (d_g_wrong : Int32) (d_n_size : Int32) (d_n_cells : (Nat → Int32)) (d_m_size : Int32) (d_m_cells : (Nat → Int32)) (d_p_size : Int32) (d_p_cells : (Nat → Int32)) (fr_above : Int64) (fr_below : Int64) (su_fewest : (Nat → Int32)) (tr_left : Int32) (tr_guessed : Int32) (tr_wrong : Int32) (wp : (Nat → Int32)) (sk : (Nat → Int32)) (p1 : Int32) {z : Int32} (hf : f_X10_howMany t_kind t_secret t_w_size t_g_left t_g_guessed t_g_wrong t_n_size t_m_size t_p_size k_size p1 = some z) :
    Met l yX10_howMany (Cond.code yX10_howMany cX10_howMany 2 (some .int) :: wsAll) rm_X10_howMany (Pro [.ref a_h, .int p1] D cI cB cT (wd_h a_h a_t a_t_w a_t_w_codes a_t_w_masks a_t_w_alike a_t_w_havers a_t_g a_t_n a_t_n_cells a_t_m a_t_m_cells a_t_p a_t_p_cells a_im a_k a_k_bytes a_r a_d a_d_w a_d_w_codes a_d_w_masks a_d_w_alike a_d_w_havers a_d_g a_d_n a_d_n_cells a_d_m a_d_m_cells a_d_p a_d_p_cells a_fr a_su a_su_fewest a_tr a_wp a_sk cI cB cT rb rn rf t_kind t_secret t_w_size t_w_codes t_w_masks t_w_alike t_w_havers t_g_left t_g_guessed t_g_wrong t_n_size t_n_cells t_m_size t_m_cells t_p_size t_p_cells im k_size k_place k_sort k_number k_behind k_bytes d_kind d_secret d_w_size d_w_codes d_w_masks d_w_alike d_w_havers d_g_left d_g_guessed d_g_wrong d_n_size d_n_cells d_m_size d_m_cells d_p_size d_p_cells fr_above fr_below su_fewest tr_left tr_guessed tr_wrong wp sk)) (Qr (some (.int z))) 0 0 (fun _ => False) := by
  refine ro_intro RX10 (by decide +kernel) rfl (Nat.le_of_ble_eq_true rfl) ?_
  intro p e s m below meth c ls CF hr hlk hG hP hl
  have hl : lv_has ls 2 [(0, .ref a_h), (1, .int p1)] := hl
  obtain ⟨hx, hb, hml, hown, hts⟩ := id CF
  unfold f_X10_howMany at hf
  refine lv_iload_n hx hb dX10_howMany_0 rfl (lv_at hl 1 rfl) ?_
  by_cases c1 : p1 = (0 : Int32)
  · have hf := tk c1 hf
    refine lv_tableIn (off := 51) (tgt := 52) hx hb dX10_howMany_1 (by rw [c1]; decide) (by rw [c1]; decide) (by rw [c1]; decide) (by decide) ?_
    refine lv_aload_n hx hb dX10_howMany_52 rfl (lv_at hl 0 rfl) ?_
    refine va_get (D := D) (ci := 8) (v := .ref a_t) (C := RX10) (T := TX10) (N := 11) hx hb hts fin_X10 hown hG.1 hP 0 ce_h_0 vq_8 0 (by decide) (hts _ wm_292) (fun _ h9 => h9) rfl dX10_howMany_53 ?_
    refine va_get (D := D) (ci := 5) (v := .ref a_t_w) (C := RX7) (T := TX7) (N := 7) hx hb hts fin_X7 hown hG.1 hP 1 ce_h_1 vq_5 0 (by decide) (hts _ wm_185) (fun _ h9 => h9) rfl dX10_howMany_56 ?_
    refine va_get (D := D) (ci := 7) (v := .int t_w_size) (C := RX9) (T := TX9) (N := 5) hx hb hts fin_X9 hown hG.1 hP 2 ce_h_2 vq_7 0 (by decide) (hts _ wm_124) (fun _ h9 => h9) rfl dX10_howMany_59 ?_
    obtain rfl := Option.some.inj hf
    exact ro_iret CF hr hlk dX10_howMany_62
  · have hf := fk c1 hf
    by_cases c2 : p1 = (1 : Int32)
    · have hf := tk c2 hf
      refine lv_tableIn (off := 62) (tgt := 63) hx hb dX10_howMany_1 (by rw [c2]; decide) (by rw [c2]; decide) (by rw [c2]; decide) (by decide) ?_
      refine lv_aload_n hx hb dX10_howMany_63 rfl (lv_at hl 0 rfl) ?_
      refine va_get (D := D) (ci := 8) (v := .ref a_t) (C := RX10) (T := TX10) (N := 11) hx hb hts fin_X10 hown hG.1 hP 0 ce_h_0 vq_8 0 (by decide) (hts _ wm_292) (fun _ h9 => h9) rfl dX10_howMany_64 ?_
      refine va_get (D := D) (ci := 5) (v := .ref a_t_g) (C := RX7) (T := TX7) (N := 7) hx hb hts fin_X7 hown hG.1 hP 1 ce_h_1 vq_5 1 (by decide) (hts _ wm_189) (fun _ h9 => h9) rfl dX10_howMany_67 ?_
      refine va_get (D := D) (ci := 1) (v := .int t_g_left) (C := RX1) (T := TX1) (N := 3) hx hb hts fin_X1 hown hG.1 hP 7 ce_h_7 vq_1 0 (by decide) (hts _ wm_151) (fun _ h9 => h9) rfl dX10_howMany_70 ?_
      obtain ⟨o3, e4, hf⟩ := lp_bind hf
      refine ro_Si (x := o3) (As := [.int t_g_left]) (rest := []) CF (c_J6_bitCount_0f7a4 l D cI cB cT t_g_left e4) ok_J6_bitCount_0f7a4 wm_774 ⟨rfl, rfl, Nat.le_of_ble_eq_true rfl, Nat.le_of_ble_eq_true rfl⟩ hG wd_E_P rfl hl.1 rfl (Nat.le_of_ble_eq_true rfl) ⟨Nat.zero_le _, Nat.zero_le _⟩ dX10_howMany_73 ?_
      obtain rfl := Option.some.inj hf
      exact ro_iret CF hr hlk dX10_howMany_76
    · have hf := fk c2 hf
      by_cases c5 : p1 = (2 : Int32)
      · have hf := tk c5 hf
        refine lv_tableIn (off := 76) (tgt := 77) hx hb dX10_howMany_1 (by rw [c5]; decide) (by rw [c5]; decide) (by rw [c5]; decide) (by decide) ?_
        refine lv_aload_n hx hb dX10_howMany_77 rfl (lv_at hl 0 rfl) ?_
        refine va_get (D := D) (ci := 8) (v := .ref a_t) (C := RX10) (T := TX10) (N := 11) hx hb hts fin_X10 hown hG.1 hP 0 ce_h_0 vq_8 0 (by decide) (hts _ wm_292) (fun _ h9 => h9) rfl dX10_howMany_78 ?_
        refine va_get (D := D) (ci := 5) (v := .ref a_t_g) (C := RX7) (T := TX7) (N := 7) hx hb hts fin_X7 hown hG.1 hP 1 ce_h_1 vq_5 1 (by decide) (hts _ wm_189) (fun _ h9 => h9) rfl dX10_howMany_81 ?_
        obtain ⟨o6, e7, hf⟩ := lp_bind hf
        have hPc : va_P D vwCl (wd_g a_t_g cI cB cT t_g_left t_g_guessed t_g_wrong) s.heap := su_20 hP
        refine ro_Vi (x := o6) (As := []) (rest := []) CF (c_X1_guesses l D cI cB cT a_t_g t_g_left t_g_guessed t_g_wrong e7) ok_X1_guesses wm_670 ⟨rfl, rfl, Nat.le_of_ble_eq_true rfl, Nat.le_of_ble_eq_true rfl⟩ hG hPc 0 1 vq_1 rfl ce_g_0 rfl hl.1 rfl (Nat.le_of_ble_eq_true rfl) ⟨Nat.zero_le _, Nat.zero_le _⟩ dX10_howMany_84 ?_
        obtain rfl := Option.some.inj hf
        exact ro_iret CF hr hlk dX10_howMany_87
      · have hf := fk c5 hf
        by_cases c8 : p1 = (3 : Int32)
        · have hf := tk c8 hf
          refine lv_tableIn (off := 87) (tgt := 88) hx hb dX10_howMany_1 (by rw [c8]; decide) (by rw [c8]; decide) (by rw [c8]; decide) (by decide) ?_
          refine lv_aload_n hx hb dX10_howMany_88 rfl (lv_at hl 0 rfl) ?_
          refine va_get (D := D) (ci := 8) (v := .ref a_t) (C := RX10) (T := TX10) (N := 11) hx hb hts fin_X10 hown hG.1 hP 0 ce_h_0 vq_8 0 (by decide) (hts _ wm_292) (fun _ h9 => h9) rfl dX10_howMany_89 ?_
          refine va_get (D := D) (ci := 5) (v := .ref a_t_g) (C := RX7) (T := TX7) (N := 7) hx hb hts fin_X7 hown hG.1 hP 1 ce_h_1 vq_5 1 (by decide) (hts _ wm_189) (fun _ h9 => h9) rfl dX10_howMany_92 ?_
          refine va_get (D := D) (ci := 1) (v := .int t_g_wrong) (C := RX1) (T := TX1) (N := 3) hx hb hts fin_X1 hown hG.1 hP 7 ce_h_7 vq_1 2 (by decide) (hts _ wm_158) (fun _ h9 => h9) rfl dX10_howMany_95 ?_
          obtain rfl := Option.some.inj hf
          exact ro_iret CF hr hlk dX10_howMany_98
        · have hf := fk c8 hf
          by_cases c9 : p1 = (4 : Int32)
          · have hf := tk c9 hf
            refine lv_tableIn (off := 98) (tgt := 99) hx hb dX10_howMany_1 (by rw [c9]; decide) (by rw [c9]; decide) (by rw [c9]; decide) (by decide) ?_
            refine lv_aload_n hx hb dX10_howMany_99 rfl (lv_at hl 0 rfl) ?_
            refine va_get (D := D) (ci := 8) (v := .ref a_t) (C := RX10) (T := TX10) (N := 11) hx hb hts fin_X10 hown hG.1 hP 0 ce_h_0 vq_8 0 (by decide) (hts _ wm_292) (fun _ h9 => h9) rfl dX10_howMany_100 ?_
            refine va_get (D := D) (ci := 5) (v := .int t_secret) (C := RX7) (T := TX7) (N := 7) hx hb hts fin_X7 hown hG.1 hP 1 ce_h_1 vq_5 6 (by decide) (hts _ wm_201) (fun _ h9 => h9) rfl dX10_howMany_103 ?_
            obtain rfl := Option.some.inj hf
            exact ro_iret CF hr hlk dX10_howMany_106
          · have hf := fk c9 hf
            by_cases c10 : p1 = (5 : Int32)
            · have hf := tk c10 hf
              refine lv_tableIn (off := 106) (tgt := 107) hx hb dX10_howMany_1 (by rw [c10]; decide) (by rw [c10]; decide) (by rw [c10]; decide) (by decide) ?_
              refine lv_aload_n hx hb dX10_howMany_107 rfl (lv_at hl 0 rfl) ?_
              refine va_get (D := D) (ci := 8) (v := .ref a_t) (C := RX10) (T := TX10) (N := 11) hx hb hts fin_X10 hown hG.1 hP 0 ce_h_0 vq_8 0 (by decide) (hts _ wm_292) (fun _ h9 => h9) rfl dX10_howMany_108 ?_
              refine va_get (D := D) (ci := 5) (v := .int t_kind) (C := RX7) (T := TX7) (N := 7) hx hb hts fin_X7 hown hG.1 hP 1 ce_h_1 vq_5 5 (by decide) (hts _ wm_197) (fun _ h9 => h9) rfl dX10_howMany_111 ?_
              obtain rfl := Option.some.inj hf
              exact ro_iret CF hr hlk dX10_howMany_114
            · have hf := fk c10 hf
              by_cases c11 : p1 = (6 : Int32)
              · have hf := tk c11 hf
                refine lv_tableIn (off := 114) (tgt := 115) hx hb dX10_howMany_1 (by rw [c11]; decide) (by rw [c11]; decide) (by rw [c11]; decide) (by decide) ?_
                refine lv_aload_n hx hb dX10_howMany_115 rfl (lv_at hl 0 rfl) ?_
                refine va_get (D := D) (ci := 8) (v := .ref a_t) (C := RX10) (T := TX10) (N := 11) hx hb hts fin_X10 hown hG.1 hP 0 ce_h_0 vq_8 0 (by decide) (hts _ wm_292) (fun _ h9 => h9) rfl dX10_howMany_116 ?_
                refine va_get (D := D) (ci := 5) (v := .ref a_t_n) (C := RX7) (T := TX7) (N := 7) hx hb hts fin_X7 hown hG.1 hP 1 ce_h_1 vq_5 2 (by decide) (hts _ wm_191) (fun _ h9 => h9) rfl dX10_howMany_119 ?_
                refine va_get (D := D) (ci := 3) (v := .int t_n_size) (C := RX5) (T := TX5) (N := 2) hx hb hts fin_X5 hown hG.1 hP 8 ce_h_8 vq_3 0 (by decide) (hts _ wm_177) (fun _ h9 => h9) rfl dX10_howMany_122 ?_
                obtain rfl := Option.some.inj hf
                exact ro_iret CF hr hlk dX10_howMany_125
              · have hf := fk c11 hf
                by_cases c12 : p1 = (7 : Int32)
                · have hf := tk c12 hf
                  refine lv_tableIn (off := 125) (tgt := 126) hx hb dX10_howMany_1 (by rw [c12]; decide) (by rw [c12]; decide) (by rw [c12]; decide) (by decide) ?_
                  refine lv_aload_n hx hb dX10_howMany_126 rfl (lv_at hl 0 rfl) ?_
                  refine va_get (D := D) (ci := 8) (v := .ref a_t) (C := RX10) (T := TX10) (N := 11) hx hb hts fin_X10 hown hG.1 hP 0 ce_h_0 vq_8 0 (by decide) (hts _ wm_292) (fun _ h9 => h9) rfl dX10_howMany_127 ?_
                  refine va_get (D := D) (ci := 5) (v := .ref a_t_m) (C := RX7) (T := TX7) (N := 7) hx hb hts fin_X7 hown hG.1 hP 1 ce_h_1 vq_5 3 (by decide) (hts _ wm_193) (fun _ h9 => h9) rfl dX10_howMany_130 ?_
                  refine va_get (D := D) (ci := 3) (v := .int t_m_size) (C := RX5) (T := TX5) (N := 2) hx hb hts fin_X5 hown hG.1 hP 10 ce_h_10 vq_3 0 (by decide) (hts _ wm_177) (fun _ h9 => h9) rfl dX10_howMany_133 ?_
                  obtain rfl := Option.some.inj hf
                  exact ro_iret CF hr hlk dX10_howMany_136
                · have hf := fk c12 hf
                  by_cases c13 : p1 = (8 : Int32)
                  · have hf := tk c13 hf
                    refine lv_tableIn (off := 136) (tgt := 137) hx hb dX10_howMany_1 (by rw [c13]; decide) (by rw [c13]; decide) (by rw [c13]; decide) (by decide) ?_
                    refine lv_aload_n hx hb dX10_howMany_137 rfl (lv_at hl 0 rfl) ?_
                    refine va_get (D := D) (ci := 8) (v := .ref a_t) (C := RX10) (T := TX10) (N := 11) hx hb hts fin_X10 hown hG.1 hP 0 ce_h_0 vq_8 0 (by decide) (hts _ wm_292) (fun _ h9 => h9) rfl dX10_howMany_138 ?_
                    refine va_get (D := D) (ci := 5) (v := .ref a_t_p) (C := RX7) (T := TX7) (N := 7) hx hb hts fin_X7 hown hG.1 hP 1 ce_h_1 vq_5 4 (by decide) (hts _ wm_195) (fun _ h9 => h9) rfl dX10_howMany_141 ?_
                    refine va_get (D := D) (ci := 3) (v := .int t_p_size) (C := RX5) (T := TX5) (N := 2) hx hb hts fin_X5 hown hG.1 hP 12 ce_h_12 vq_3 0 (by decide) (hts _ wm_177) (fun _ h9 => h9) rfl dX10_howMany_144 ?_
                    obtain rfl := Option.some.inj hf
                    exact ro_iret CF hr hlk dX10_howMany_147
                  · have hf := fk c13 hf
                    refine lv_tableOut (tgt := 148) hx hb dX10_howMany_1 (sw_out (fun z h1 h2 h3 => ?_)) (by decide) ?_
                    · have h4 : z = 0 ∨ z = 1 ∨ z = 2 ∨ z = 3 ∨ z = 4 ∨ z = 5 ∨ z = 6 ∨ z = 7 ∨ z = 8 := by omega
                      rcases h4 with h4 | h4 | h4 | h4 | h4 | h4 | h4 | h4 | h4
                      · exact c1 (Int32.toInt_inj.mp (by rw [h3, h4]; decide))
                      · exact c2 (Int32.toInt_inj.mp (by rw [h3, h4]; decide))
                      · exact c5 (Int32.toInt_inj.mp (by rw [h3, h4]; decide))
                      · exact c8 (Int32.toInt_inj.mp (by rw [h3, h4]; decide))
                      · exact c9 (Int32.toInt_inj.mp (by rw [h3, h4]; decide))
                      · exact c10 (Int32.toInt_inj.mp (by rw [h3, h4]; decide))
                      · exact c11 (Int32.toInt_inj.mp (by rw [h3, h4]; decide))
                      · exact c12 (Int32.toInt_inj.mp (by rw [h3, h4]; decide))
                      · exact c13 (Int32.toInt_inj.mp (by rw [h3, h4]; decide))
                    · refine lv_aload_n hx hb dX10_howMany_148 rfl (lv_at hl 0 rfl) ?_
                      refine va_get (D := D) (ci := 8) (v := .ref a_r) (C := RX10) (T := TX10) (N := 11) hx hb hts fin_X10 hown hG.1 hP 0 ce_h_0 vq_8 2 (by decide) (hts _ wm_294) (fun _ h9 => h9) rfl dX10_howMany_149 ?_
                      refine va_get (D := D) (ci := 2) (v := .ref a_k) (C := RX4) (T := TX4) (N := 2) hx hb hts fin_X4 hown hG.1 hP 17 ce_h_17 vq_2 0 (by decide) (hts _ wm_257) (fun _ h9 => h9) rfl dX10_howMany_152 ?_
                      refine va_get (D := D) (ci := 6) (v := .int k_size) (C := RX8) (T := TX8) (N := 6) hx hb hts fin_X8 hown hG.1 hP 15 ce_h_15 vq_6 0 (by decide) (hts _ wm_231) (fun _ h9 => h9) rfl dX10_howMany_155 ?_
                      obtain rfl := Option.some.inj hf
                      exact ro_iret CF hr hlk dX10_howMany_158
end M_X10_howMany
section M_X10_count
variable {p : Program} {l : Launch} {e : Env} {s : State} {m : MethodId} {args : Array Value} {below : List Frame} {meth : Method} {c : Code} {Q : State → Prop} {A : Nat → Prop} {D : va_G} {cI cB cT : ClassId}
variable {a_h a_t a_t_w a_t_w_codes a_t_w_masks a_t_w_alike a_t_w_havers a_t_g a_t_n a_t_n_cells a_t_m a_t_m_cells a_t_p a_t_p_cells a_im a_k a_k_bytes a_r a_d a_d_w a_d_w_codes a_d_w_masks a_d_w_alike a_d_w_havers a_d_g a_d_n a_d_n_cells a_d_m a_d_m_cells a_d_p a_d_p_cells a_fr a_su a_su_fewest a_tr a_wp a_sk : Nat}
def rm_X10_count : Room := { frames := 3, cells := 0, slots := 0, locals := 61 }
def f_X10_count (rb : Int32) (t_kind : Int32) (t_secret : Int32) (t_w_size : Int32) (t_g_left : Int32) (t_g_guessed : Int32) (t_g_wrong : Int32) (t_n_size : Int32) (t_m_size : Int32) (t_p_size : Int32) (k_size : Int32) (p1 : Int32) : Option (Int32 × Int32) := ((f_X10_isBelow p1 (10 : Int32)).bind fun o1 => (if o1 = 0 then ((f_X10_refuseBad rb).bind fun o4 => some (o4.1, o4.2)) else ((f_X10_howMany t_kind t_secret t_w_size t_g_left t_g_guessed t_g_wrong t_n_size t_m_size t_p_size k_size p1).bind fun o6 => some (o6, rb))))
set_option maxHeartbeats 4000000 in
set_option maxRecDepth 100000 in
theorem c_X10_count (l : Launch) (D : va_G) (cI cB cT : ClassId) (sz : Nat) (a_h a_t a_t_w a_t_w_codes a_t_w_masks a_t_w_alike a_t_w_havers a_t_g a_t_n a_t_n_cells a_t_m a_t_m_cells a_t_p a_t_p_cells a_im a_k a_k_bytes a_r a_d a_d_w a_d_w_codes a_d_w_masks a_d_w_alike a_d_w_havers a_d_g a_d_n a_d_n_cells a_d_m a_d_m_cells a_d_p a_d_p_cells a_fr a_su a_su_fewest a_tr a_wp a_sk : Nat) (rb : Int32) (rn : Int32) (rf : Int32) (t_kind : Int32) (t_secret : Int32) (t_w_size : Int32) (t_w_codes : (Nat → Int32)) (t_w_masks : (Nat → Int32)) (t_w_alike : (Nat → Int32)) (t_w_havers : (Nat → Int32)) (t_g_left : Int32) (t_g_guessed : Int32) (t_g_wrong : Int32) (t_n_size : Int32) (t_n_cells : (Nat → Int32)) (t_m_size : Int32) (t_m_cells : (Nat → Int32)) (t_p_size : Int32) (t_p_cells : (Nat → Int32)) (im : (Nat → Option Nat)) (k_size : Int32) (k_place : Int32) (k_sort : Int32) (k_number : Int32) (k_behind : Int32) (k_bytes : (Nat → Int32)) (d_kind : Int32) (d_secret : Int32) (d_w_size : Int32) (d_w_codes : (Nat → Int32)) (d_w_masks : (Nat → Int32)) (d_w_alike : (Nat → Int32)) (d_w_havers : (Nat → Int32)) (d_g_left : Int32) (d_g_guessed : Int32) (d_g_wrong : Int32) (d_n_size : Int32) (d_n_cells : (Nat → Int32)) (d_m_size : Int32) (d_m_cells : (Nat → Int32)) (d_p_size : Int32) (d_p_cells : (Nat → Int32)) (fr_above : Int64) (fr_below : Int64) (su_fewest : (Nat → Int32)) (tr_left : Int32) (tr_guessed : Int32) (tr_wrong : Int32) (wp : (Nat → Int32)) (sk : (Nat → Int32)) (p1 : Int32) {z : Int32 × Int32} (hf : f_X10_count rb t_kind t_secret t_w_size t_g_left t_g_guessed t_g_wrong t_n_size t_m_size t_p_size k_size p1 = some z) :
    Met l yX10_count (Cond.code yX10_count cX10_count 2 (some .int) :: wsAll) rm_X10_count (Pwr [.ref a_h, .int p1] D cI cB cT (wd_h a_h a_t a_t_w a_t_w_codes a_t_w_masks a_t_w_alike a_t_w_havers a_t_g a_t_n a_t_n_cells a_t_m a_t_m_cells a_t_p a_t_p_cells a_im a_k a_k_bytes a_r a_d a_d_w a_d_w_codes a_d_w_masks a_d_w_alike a_d_w_havers a_d_g a_d_n a_d_n_cells a_d_m a_d_m_cells a_d_p a_d_p_cells a_fr a_su a_su_fewest a_tr a_wp a_sk cI cB cT rb rn rf t_kind t_secret t_w_size t_w_codes t_w_masks t_w_alike t_w_havers t_g_left t_g_guessed t_g_wrong t_n_size t_n_cells t_m_size t_m_cells t_p_size t_p_cells im k_size k_place k_sort k_number k_behind k_bytes d_kind d_secret d_w_size d_w_codes d_w_masks d_w_alike d_w_havers d_g_left d_g_guessed d_g_wrong d_n_size d_n_cells d_m_size d_m_cells d_p_size d_p_cells fr_above fr_below su_fewest tr_left tr_guessed tr_wrong wp sk) sz) (Qw (some (.int z.1)) D (wd_h a_h a_t a_t_w a_t_w_codes a_t_w_masks a_t_w_alike a_t_w_havers a_t_g a_t_n a_t_n_cells a_t_m a_t_m_cells a_t_p a_t_p_cells a_im a_k a_k_bytes a_r a_d a_d_w a_d_w_codes a_d_w_masks a_d_w_alike a_d_w_havers a_d_g a_d_n a_d_n_cells a_d_m a_d_m_cells a_d_p a_d_p_cells a_fr a_su a_su_fewest a_tr a_wp a_sk cI cB cT z.2 rn rf t_kind t_secret t_w_size t_w_codes t_w_masks t_w_alike t_w_havers t_g_left t_g_guessed t_g_wrong t_n_size t_n_cells t_m_size t_m_cells t_p_size t_p_cells im k_size k_place k_sort k_number k_behind k_bytes d_kind d_secret d_w_size d_w_codes d_w_masks d_w_alike d_w_havers d_g_left d_g_guessed d_g_wrong d_n_size d_n_cells d_m_size d_m_cells d_p_size d_p_cells fr_above fr_below su_fewest tr_left tr_guessed tr_wrong wp sk) (va_A (wd_h a_h a_t a_t_w a_t_w_codes a_t_w_masks a_t_w_alike a_t_w_havers a_t_g a_t_n a_t_n_cells a_t_m a_t_m_cells a_t_p a_t_p_cells a_im a_k a_k_bytes a_r a_d a_d_w a_d_w_codes a_d_w_masks a_d_w_alike a_d_w_havers a_d_g a_d_n a_d_n_cells a_d_m a_d_m_cells a_d_p a_d_p_cells a_fr a_su a_su_fewest a_tr a_wp a_sk cI cB cT rb rn rf t_kind t_secret t_w_size t_w_codes t_w_masks t_w_alike t_w_havers t_g_left t_g_guessed t_g_wrong t_n_size t_n_cells t_m_size t_m_cells t_p_size t_p_cells im k_size k_place k_sort k_number k_behind k_bytes d_kind d_secret d_w_size d_w_codes d_w_masks d_w_alike d_w_havers d_g_left d_g_guessed d_g_wrong d_n_size d_n_cells d_m_size d_m_cells d_p_size d_p_cells fr_above fr_below su_fewest tr_left tr_guessed tr_wrong wp sk) sz)) 0 0 (va_A (wd_h a_h a_t a_t_w a_t_w_codes a_t_w_masks a_t_w_alike a_t_w_havers a_t_g a_t_n a_t_n_cells a_t_m a_t_m_cells a_t_p a_t_p_cells a_im a_k a_k_bytes a_r a_d a_d_w a_d_w_codes a_d_w_masks a_d_w_alike a_d_w_havers a_d_g a_d_n a_d_n_cells a_d_m a_d_m_cells a_d_p a_d_p_cells a_fr a_su a_su_fewest a_tr a_wp a_sk cI cB cT rb rn rf t_kind t_secret t_w_size t_w_codes t_w_masks t_w_alike t_w_havers t_g_left t_g_guessed t_g_wrong t_n_size t_n_cells t_m_size t_m_cells t_p_size t_p_cells im k_size k_place k_sort k_number k_behind k_bytes d_kind d_secret d_w_size d_w_codes d_w_masks d_w_alike d_w_havers d_g_left d_g_guessed d_g_wrong d_n_size d_n_cells d_m_size d_m_cells d_p_size d_p_cells fr_above fr_below su_fewest tr_left tr_guessed tr_wrong wp sk) sz) := by
  refine wr_intro RX10 (by decide +kernel) rfl (Nat.le_of_ble_eq_true rfl) ?_
  intro p e s m below meth c ls A H locs CF hr hlk hG hP hD hS hA hl
  have hl : lv_has ls 2 [(0, .ref a_h), (1, .int p1)] := hl
  obtain ⟨hx, hb, hml, hown, hts⟩ := id CF
  unfold f_X10_count at hf
  refine lv_iload_n hx hb dX10_count_0 rfl (lv_at hl 1 rfl) ?_
  refine lv_bipush (v := (10 : Int32)) hx hb dX10_count_1 (by decide) ?_
  obtain ⟨o1, e2, hf⟩ := lp_bind hf
  refine ro_Si (x := o1) (As := [.int p1, .int (10 : Int32)]) (rest := []) CF (c_X10_isBelow l D cI cB cT p1 (10 : Int32) e2) ok_X10_isBelow wm_330 ⟨rfl, rfl, Nat.le_of_ble_eq_true rfl, Nat.le_of_ble_eq_true rfl⟩ hG wd_E_P rfl hl.1 rfl (Nat.le_of_ble_eq_true rfl) ⟨Nat.zero_le _, Nat.zero_le _⟩ dX10_count_3 ?_
  refine lv_if_eq (tgt := 17) hx hb dX10_count_6 (by decide) (fun c3 => ?_) (fun c3 => ?_)
  · have hf := tk c3 hf
    refine lv_aload_n hx hb dX10_count_17 rfl (lv_at hl 0 rfl) ?_
    obtain ⟨o4, e5, hf⟩ := lp_bind hf
    refine wr_Wi (x := o4.1) (ws' := (wd_h a_h a_t a_t_w a_t_w_codes a_t_w_masks a_t_w_alike a_t_w_havers a_t_g a_t_n a_t_n_cells a_t_m a_t_m_cells a_t_p a_t_p_cells a_im a_k a_k_bytes a_r a_d a_d_w a_d_w_codes a_d_w_masks a_d_w_alike a_d_w_havers a_d_g a_d_n a_d_n_cells a_d_m a_d_m_cells a_d_p a_d_p_cells a_fr a_su a_su_fewest a_tr a_wp a_sk cI cB cT o4.2 rn rf t_kind t_secret t_w_size t_w_codes t_w_masks t_w_alike t_w_havers t_g_left t_g_guessed t_g_wrong t_n_size t_n_cells t_m_size t_m_cells t_p_size t_p_cells im k_size k_place k_sort k_number k_behind k_bytes d_kind d_secret d_w_size d_w_codes d_w_masks d_w_alike d_w_havers d_g_left d_g_guessed d_g_wrong d_n_size d_n_cells d_m_size d_m_cells d_p_size d_p_cells fr_above fr_below su_fewest tr_left tr_guessed tr_wrong wp sk)) (As := []) (rest := []) CF (c_X10_refuseBad l D cI cB cT H.size a_h a_t a_t_w a_t_w_codes a_t_w_masks a_t_w_alike a_t_w_havers a_t_g a_t_n a_t_n_cells a_t_m a_t_m_cells a_t_p a_t_p_cells a_im a_k a_k_bytes a_r a_d a_d_w a_d_w_codes a_d_w_masks a_d_w_alike a_d_w_havers a_d_g a_d_n a_d_n_cells a_d_m a_d_m_cells a_d_p a_d_p_cells a_fr a_su a_su_fewest a_tr a_wp a_sk rb rn rf t_kind t_secret t_w_size t_w_codes t_w_masks t_w_alike t_w_havers t_g_left t_g_guessed t_g_wrong t_n_size t_n_cells t_m_size t_m_cells t_p_size t_p_cells im k_size k_place k_sort k_number k_behind k_bytes d_kind d_secret d_w_size d_w_codes d_w_masks d_w_alike d_w_havers d_g_left d_g_guessed d_g_wrong d_n_size d_n_cells d_m_size d_m_cells d_p_size d_p_cells fr_above fr_below su_fewest tr_left tr_guessed tr_wrong wp sk e5) ok_X10_refuseBad wm_333 ⟨rfl, rfl, Nat.le_of_ble_eq_true rfl, Nat.le_of_ble_eq_true rfl⟩ hG hP hD hS hA fs_h 0 8 vq_8 rfl ce_h_0 rfl hl.1 rfl (Nat.le_of_ble_eq_true rfl) ⟨Nat.zero_le _, Nat.zero_le _⟩ dX10_count_18 (fun H locs hP hD hS => ?_)
    obtain rfl := Option.some.inj hf
    exact wr_iret CF hr hlk hP hS dX10_count_21
  · have hf := fk c3 hf
    refine lv_aload_n hx hb dX10_count_9 rfl (lv_at hl 0 rfl) ?_
    refine lv_iload_n hx hb dX10_count_10 rfl (lv_at hl 1 rfl) ?_
    obtain ⟨o6, e7, hf⟩ := lp_bind hf
    refine ro_Vi (x := o6) (As := [.int p1]) (rest := []) CF (c_X10_howMany l D cI cB cT a_h a_t a_t_w a_t_w_codes a_t_w_masks a_t_w_alike a_t_w_havers a_t_g a_t_n a_t_n_cells a_t_m a_t_m_cells a_t_p a_t_p_cells a_im a_k a_k_bytes a_r a_d a_d_w a_d_w_codes a_d_w_masks a_d_w_alike a_d_w_havers a_d_g a_d_n a_d_n_cells a_d_m a_d_m_cells a_d_p a_d_p_cells a_fr a_su a_su_fewest a_tr a_wp a_sk rb rn rf t_kind t_secret t_w_size t_w_codes t_w_masks t_w_alike t_w_havers t_g_left t_g_guessed t_g_wrong t_n_size t_n_cells t_m_size t_m_cells t_p_size t_p_cells im k_size k_place k_sort k_number k_behind k_bytes d_kind d_secret d_w_size d_w_codes d_w_masks d_w_alike d_w_havers d_g_left d_g_guessed d_g_wrong d_n_size d_n_cells d_m_size d_m_cells d_p_size d_p_cells fr_above fr_below su_fewest tr_left tr_guessed tr_wrong wp sk p1 e7) ok_X10_howMany wm_892 ⟨rfl, rfl, Nat.le_of_ble_eq_true rfl, Nat.le_of_ble_eq_true rfl⟩ hG hP 0 8 vq_8 rfl ce_h_0 rfl hl.1 rfl (Nat.le_of_ble_eq_true rfl) ⟨Nat.zero_le _, Nat.zero_le _⟩ dX10_count_11 ?_
    refine lv_goto (tgt := 21) hx hb dX10_count_14 (by decide) ?_
    obtain rfl := Option.some.inj hf
    exact wr_iret CF hr hlk hP hS dX10_count_21
end M_X10_count
section M_X10_digest
variable {p : Program} {l : Launch} {e : Env} {s : State} {m : MethodId} {args : Array Value} {below : List Frame} {meth : Method} {c : Code} {Q : State → Prop} {A : Nat → Prop} {D : va_G} {cI cB cT : ClassId}
variable {a_h a_t a_t_w a_t_w_codes a_t_w_masks a_t_w_alike a_t_w_havers a_t_g a_t_n a_t_n_cells a_t_m a_t_m_cells a_t_p a_t_p_cells a_im a_k a_k_bytes a_r a_d a_d_w a_d_w_codes a_d_w_masks a_d_w_alike a_d_w_havers a_d_g a_d_n a_d_n_cells a_d_m a_d_m_cells a_d_p a_d_p_cells a_fr a_su a_su_fewest a_tr a_wp a_sk : Nat}
def rm_X10_digest : Room := { frames := 3, cells := 0, slots := 0, locals := 71 }
def B_X10_digest_6 (t_kind : Int32) (t_secret : Int32) (t_w_size : Int32) (t_g_left : Int32) (t_g_guessed : Int32) (t_g_wrong : Int32) (t_n_size : Int32) (t_m_size : Int32) (t_p_size : Int32) (k_size : Int32) (x1 : Int64) (x3 : Int32) : Option ((Int64 × Int32) ⊕ (Int64)) := (if (10 : Int32) ≤ x3 then some (Sum.inr x1) else ((f_X10_howMany t_kind t_secret t_w_size t_g_left t_g_guessed t_g_wrong t_n_size t_m_size t_p_size k_size x3).bind fun o2 => some (Sum.inl ((((31 : Int64) * x1) + (o2).toInt64), (x3 + (1 : Int32))))))
def B_X10_digest_33 (t_w_size : Int32) (t_w_codes : (Nat → Int32)) (x1 : Int64) (x3 : Int32) : Option ((Int64 × Int32) ⊕ (Int64)) := (if t_w_size ≤ x3 then some (Sum.inr x1) else ((f_X9_codeOf t_w_size t_w_codes x3).bind fun o7 => some (Sum.inl ((((31 : Int64) * x1) + (o7).toInt64), (x3 + (1 : Int32))))))
def f_X10_digest (t_kind : Int32) (t_secret : Int32) (t_w_size : Int32) (t_w_codes : (Nat → Int32)) (t_g_left : Int32) (t_g_guessed : Int32) (t_g_wrong : Int32) (t_n_size : Int32) (t_n_cells : (Nat → Int32)) (t_m_size : Int32) (t_m_cells : (Nat → Int32)) (t_p_size : Int32) (k_size : Int32) (fr_above : Int64) (fr_below : Int64) : Option (Int64) := ((lp (fun v => B_X10_digest_6 t_kind t_secret t_w_size t_g_left t_g_guessed t_g_wrong t_n_size t_m_size t_p_size k_size v.1 v.2) KN ((1823 : Int64), (0 : Int32))).bind fun o4 => ((lp (fun v => B_X10_digest_33 t_w_size t_w_codes v.1 v.2) KN (o4, (0 : Int32))).bind fun o9 => ((some ((((31 : Int64) * (((31 : Int64) * o9) + (t_g_left).toInt64)) + (t_g_guessed).toInt64) : Int64)).bind fun o11 => ((f_X5_digestOn 24 t_n_size t_n_cells o11 (4 : Int32)).bind fun o14 => ((f_X5_digestOn 24 t_m_size t_m_cells o14 (3 : Int32)).bind fun o16 => some (((31 : Int64) * (((31 : Int64) * o16) + fr_above)) + fr_below))))))
set_option maxHeartbeats 4000000 in
set_option maxRecDepth 100000 in
theorem B_X10_digest_6_W {rb : Int32} {rn : Int32} {rf : Int32} {t_kind : Int32} {t_secret : Int32} {t_w_size : Int32} {t_w_codes : (Nat → Int32)} {t_w_masks : (Nat → Int32)} {t_w_alike : (Nat → Int32)} {t_w_havers : (Nat → Int32)} {t_g_left : Int32} {t_g_guessed : Int32} {t_g_wrong : Int32} {t_n_size : Int32} {t_n_cells : (Nat → Int32)} {t_m_size : Int32} {t_m_cells : (Nat → Int32)} {t_p_size : Int32} {t_p_cells : (Nat → Int32)} {im : (Nat → Option Nat)} {k_size : Int32} {k_place : Int32} {k_sort : Int32} {k_number : Int32} {k_behind : Int32} {k_bytes : (Nat → Int32)} {d_kind : Int32} {d_secret : Int32} {d_w_size : Int32} {d_w_codes : (Nat → Int32)} {d_w_masks : (Nat → Int32)} {d_w_alike : (Nat → Int32)} {d_w_havers : (Nat → Int32)} {d_g_left : Int32} {d_g_guessed : Int32} {d_g_wrong : Int32} {d_n_size : Int32} {d_n_cells : (Nat → Int32)} {d_m_size : Int32} {d_m_cells : (Nat → Int32)} {d_p_size : Int32} {d_p_cells : (Nat → Int32)} {fr_above : Int64} {fr_below : Int64} {su_fewest : (Nat → Int32)} {tr_left : Int32} {tr_guessed : Int32} {tr_wrong : Int32} {wp : (Nat → Int32)} {sk : (Nat → Int32)} {x1 : Int64} {x3 : Int32} (CF : CallFix p m c cX10_digest 4 s args wsAll RX10) (hG : Gd D cI cB cT s) {z : (Int64 × Int32) ⊕ (Int64)} (hk : ∀ (v' : Int64 × Int32) (ls : Array Slot), z = Sum.inl v' → lv_has ls 4 [(0, .ref a_h), (1, .long (v'.1)), (3, .int (v'.2))] → W p l e rm_X10_digest s m args below meth c s.heap [] 0 0 Q (F0 m 6 ls [])) (hx0 : ∀ (o' : Int64) (ls : Array Slot), z = Sum.inr o' → lv_has ls 4 [(0, .ref a_h), (1, .long (o'))] → W p l e rm_X10_digest s m args below meth c s.heap [] 0 0 Q (F0 m 31 ls [])) {ls : Array Slot} (hP : va_P D vwCl (wd_h a_h a_t a_t_w a_t_w_codes a_t_w_masks a_t_w_alike a_t_w_havers a_t_g a_t_n a_t_n_cells a_t_m a_t_m_cells a_t_p a_t_p_cells a_im a_k a_k_bytes a_r a_d a_d_w a_d_w_codes a_d_w_masks a_d_w_alike a_d_w_havers a_d_g a_d_n a_d_n_cells a_d_m a_d_m_cells a_d_p a_d_p_cells a_fr a_su a_su_fewest a_tr a_wp a_sk cI cB cT rb rn rf t_kind t_secret t_w_size t_w_codes t_w_masks t_w_alike t_w_havers t_g_left t_g_guessed t_g_wrong t_n_size t_n_cells t_m_size t_m_cells t_p_size t_p_cells im k_size k_place k_sort k_number k_behind k_bytes d_kind d_secret d_w_size d_w_codes d_w_masks d_w_alike d_w_havers d_g_left d_g_guessed d_g_wrong d_n_size d_n_cells d_m_size d_m_cells d_p_size d_p_cells fr_above fr_below su_fewest tr_left tr_guessed tr_wrong wp sk) s.heap) (hl : lv_has ls 4 [(0, .ref a_h), (1, .long x1), (3, .int x3)]) (hf : B_X10_digest_6 t_kind t_secret t_w_size t_g_left t_g_guessed t_g_wrong t_n_size t_m_size t_p_size k_size x1 x3 = some z) : W p l e rm_X10_digest s m args below meth c s.heap [] 0 0 Q (F0 m 6 ls []) := by
  obtain ⟨hx, hb, hml, hown, hts⟩ := id CF
  unfold B_X10_digest_6 at hf
  refine lv_iload_n hx hb dX10_digest_6 rfl (lv_at hl 2 rfl) ?_
  refine lv_bipush (v := (10 : Int32)) hx hb dX10_digest_7 (by decide) ?_
  refine lv_icmp_ge (tgt := 31) hx hb dX10_digest_9 (by decide) (fun c1 => ?_) (fun c1 => ?_)
  · have hf := tk c1 hf
    exact hx0 _ _ (Option.some.inj hf).symm (lv_sub hl [0, 1] rfl)
  · have hf := fk c1 hf
    refine lv_ldc2 (v := (31 : Int64)) hx hb hown (hts _ wm_901) dX10_digest_12 ?_
    refine lv_lload_n hx hb dX10_digest_15 rfl (lv_at hl 1 rfl) ?_
    refine lv_lmul hx hb dX10_digest_16 ?_
    refine lv_aload_n hx hb dX10_digest_17 rfl (lv_at hl 0 rfl) ?_
    refine lv_iload_n hx hb dX10_digest_18 rfl (lv_at hl 2 rfl) ?_
    obtain ⟨o2, e3, hf⟩ := lp_bind hf
    refine ro_Vi (x := o2) (As := [.int x3]) (rest := [.long ((31 : Int64) * x1)]) CF (c_X10_howMany l D cI cB cT a_h a_t a_t_w a_t_w_codes a_t_w_masks a_t_w_alike a_t_w_havers a_t_g a_t_n a_t_n_cells a_t_m a_t_m_cells a_t_p a_t_p_cells a_im a_k a_k_bytes a_r a_d a_d_w a_d_w_codes a_d_w_masks a_d_w_alike a_d_w_havers a_d_g a_d_n a_d_n_cells a_d_m a_d_m_cells a_d_p a_d_p_cells a_fr a_su a_su_fewest a_tr a_wp a_sk rb rn rf t_kind t_secret t_w_size t_w_codes t_w_masks t_w_alike t_w_havers t_g_left t_g_guessed t_g_wrong t_n_size t_n_cells t_m_size t_m_cells t_p_size t_p_cells im k_size k_place k_sort k_number k_behind k_bytes d_kind d_secret d_w_size d_w_codes d_w_masks d_w_alike d_w_havers d_g_left d_g_guessed d_g_wrong d_n_size d_n_cells d_m_size d_m_cells d_p_size d_p_cells fr_above fr_below su_fewest tr_left tr_guessed tr_wrong wp sk x3 e3) ok_X10_howMany wm_892 ⟨rfl, rfl, Nat.le_of_ble_eq_true rfl, Nat.le_of_ble_eq_true rfl⟩ hG hP 0 8 vq_8 rfl ce_h_0 rfl hl.1 rfl (Nat.le_of_ble_eq_true rfl) ⟨Nat.zero_le _, Nat.zero_le _⟩ dX10_digest_19 ?_
    refine lv_i2l hx hb dX10_digest_22 rfl ?_
    refine lv_ladd hx hb dX10_digest_23 ?_
    refine lv_lstore_n (lv' := [(1, .long (((31 : Int64) * x1) + (o2).toInt64)), (0, .ref a_h), (3, .int x3)]) hx hb dX10_digest_24 rfl hl (by decide) rfl (fun ls hl => ?_)
    refine lv_iinc (v := (x3 + (1 : Int32))) (lv' := [(3, .int (x3 + (1 : Int32))), (1, .long (((31 : Int64) * x1) + (o2).toInt64)), (0, .ref a_h)]) hx hb dX10_digest_25 hl (k := 2) rfl (iinc_eq (by decide)) (by decide) rfl (fun ls hl => ?_)
    refine lv_goto (tgt := 6) hx hb dX10_digest_28 (by decide) ?_
    exact hk _ _ (Option.some.inj hf).symm (lv_sub hl [2, 1, 0] rfl)
set_option maxHeartbeats 4000000 in
set_option maxRecDepth 100000 in
theorem L_X10_digest_6_W {rb : Int32} {rn : Int32} {rf : Int32} {t_kind : Int32} {t_secret : Int32} {t_w_size : Int32} {t_w_codes : (Nat → Int32)} {t_w_masks : (Nat → Int32)} {t_w_alike : (Nat → Int32)} {t_w_havers : (Nat → Int32)} {t_g_left : Int32} {t_g_guessed : Int32} {t_g_wrong : Int32} {t_n_size : Int32} {t_n_cells : (Nat → Int32)} {t_m_size : Int32} {t_m_cells : (Nat → Int32)} {t_p_size : Int32} {t_p_cells : (Nat → Int32)} {im : (Nat → Option Nat)} {k_size : Int32} {k_place : Int32} {k_sort : Int32} {k_number : Int32} {k_behind : Int32} {k_bytes : (Nat → Int32)} {d_kind : Int32} {d_secret : Int32} {d_w_size : Int32} {d_w_codes : (Nat → Int32)} {d_w_masks : (Nat → Int32)} {d_w_alike : (Nat → Int32)} {d_w_havers : (Nat → Int32)} {d_g_left : Int32} {d_g_guessed : Int32} {d_g_wrong : Int32} {d_n_size : Int32} {d_n_cells : (Nat → Int32)} {d_m_size : Int32} {d_m_cells : (Nat → Int32)} {d_p_size : Int32} {d_p_cells : (Nat → Int32)} {fr_above : Int64} {fr_below : Int64} {su_fewest : (Nat → Int32)} {tr_left : Int32} {tr_guessed : Int32} {tr_wrong : Int32} {wp : (Nat → Int32)} {sk : (Nat → Int32)} (CF : CallFix p m c cX10_digest 4 s args wsAll RX10) (hG : Gd D cI cB cT s) {o : Int64} (hx0 : ∀ (ls : Array Slot), lv_has ls 4 [(0, .ref a_h), (1, .long o)] → W p l e rm_X10_digest s m args below meth c s.heap [] 0 0 Q (F0 m 31 ls [])) : ∀ (n : Nat) (x1 : Int64) (x3 : Int32) (ls : Array Slot), va_P D vwCl (wd_h a_h a_t a_t_w a_t_w_codes a_t_w_masks a_t_w_alike a_t_w_havers a_t_g a_t_n a_t_n_cells a_t_m a_t_m_cells a_t_p a_t_p_cells a_im a_k a_k_bytes a_r a_d a_d_w a_d_w_codes a_d_w_masks a_d_w_alike a_d_w_havers a_d_g a_d_n a_d_n_cells a_d_m a_d_m_cells a_d_p a_d_p_cells a_fr a_su a_su_fewest a_tr a_wp a_sk cI cB cT rb rn rf t_kind t_secret t_w_size t_w_codes t_w_masks t_w_alike t_w_havers t_g_left t_g_guessed t_g_wrong t_n_size t_n_cells t_m_size t_m_cells t_p_size t_p_cells im k_size k_place k_sort k_number k_behind k_bytes d_kind d_secret d_w_size d_w_codes d_w_masks d_w_alike d_w_havers d_g_left d_g_guessed d_g_wrong d_n_size d_n_cells d_m_size d_m_cells d_p_size d_p_cells fr_above fr_below su_fewest tr_left tr_guessed tr_wrong wp sk) s.heap → lv_has ls 4 [(0, .ref a_h), (1, .long x1), (3, .int x3)] → lp (fun v => B_X10_digest_6 t_kind t_secret t_w_size t_g_left t_g_guessed t_g_wrong t_n_size t_m_size t_p_size k_size v.1 v.2) n (x1, x3) = some o → W p l e rm_X10_digest s m args below meth c s.heap [] 0 0 Q (F0 m 6 ls []) := by
  intro n
  induction n with
  | zero =>
    intro x1 x3 ls hP hl hf
    exact (lp_zero hf).elim
  | succ n ih =>
    intro x1 x3 ls hP hl hf
    obtain ⟨z, hz, hf⟩ := lp_succ hf
    refine B_X10_digest_6_W CF hG ?_ ?_ hP hl hz
    · intro v' ls ez hl
      rcases hf with ⟨v2, ev, hf⟩ | ev
      · cases Sum.inl.inj (ez.symm.trans ev)
        exact ih v'.1 v'.2 ls hP hl hf
      · exact (lp_lr (ez.symm.trans ev)).elim
    · intro o' ls ez hl
      rcases hf with ⟨v2, ev, hf⟩ | ev
      · exact (lp_lr (ev.symm.trans ez)).elim
      · cases Sum.inr.inj (ez.symm.trans ev)
        exact hx0 ls  hl
set_option maxHeartbeats 4000000 in
set_option maxRecDepth 100000 in
theorem B_X10_digest_33_W {rb : Int32} {rn : Int32} {rf : Int32} {t_kind : Int32} {t_secret : Int32} {t_w_size : Int32} {t_w_codes : (Nat → Int32)} {t_w_masks : (Nat → Int32)} {t_w_alike : (Nat → Int32)} {t_w_havers : (Nat → Int32)} {t_g_left : Int32} {t_g_guessed : Int32} {t_g_wrong : Int32} {t_n_size : Int32} {t_n_cells : (Nat → Int32)} {t_m_size : Int32} {t_m_cells : (Nat → Int32)} {t_p_size : Int32} {t_p_cells : (Nat → Int32)} {im : (Nat → Option Nat)} {k_size : Int32} {k_place : Int32} {k_sort : Int32} {k_number : Int32} {k_behind : Int32} {k_bytes : (Nat → Int32)} {d_kind : Int32} {d_secret : Int32} {d_w_size : Int32} {d_w_codes : (Nat → Int32)} {d_w_masks : (Nat → Int32)} {d_w_alike : (Nat → Int32)} {d_w_havers : (Nat → Int32)} {d_g_left : Int32} {d_g_guessed : Int32} {d_g_wrong : Int32} {d_n_size : Int32} {d_n_cells : (Nat → Int32)} {d_m_size : Int32} {d_m_cells : (Nat → Int32)} {d_p_size : Int32} {d_p_cells : (Nat → Int32)} {fr_above : Int64} {fr_below : Int64} {su_fewest : (Nat → Int32)} {tr_left : Int32} {tr_guessed : Int32} {tr_wrong : Int32} {wp : (Nat → Int32)} {sk : (Nat → Int32)} {x1 : Int64} {x3 : Int32} (CF : CallFix p m c cX10_digest 4 s args wsAll RX10) (hG : Gd D cI cB cT s) {z : (Int64 × Int32) ⊕ (Int64)} (hk : ∀ (v' : Int64 × Int32) (ls : Array Slot), z = Sum.inl v' → lv_has ls 4 [(0, .ref a_h), (1, .long (v'.1)), (3, .int (v'.2))] → W p l e rm_X10_digest s m args below meth c s.heap [] 0 0 Q (F0 m 33 ls [])) (hx0 : ∀ (o' : Int64) (ls : Array Slot), z = Sum.inr o' → lv_has ls 4 [(0, .ref a_h), (1, .long (o'))] → W p l e rm_X10_digest s m args below meth c s.heap [] 0 0 Q (F0 m 72 ls [])) {ls : Array Slot} (hP : va_P D vwCl (wd_h a_h a_t a_t_w a_t_w_codes a_t_w_masks a_t_w_alike a_t_w_havers a_t_g a_t_n a_t_n_cells a_t_m a_t_m_cells a_t_p a_t_p_cells a_im a_k a_k_bytes a_r a_d a_d_w a_d_w_codes a_d_w_masks a_d_w_alike a_d_w_havers a_d_g a_d_n a_d_n_cells a_d_m a_d_m_cells a_d_p a_d_p_cells a_fr a_su a_su_fewest a_tr a_wp a_sk cI cB cT rb rn rf t_kind t_secret t_w_size t_w_codes t_w_masks t_w_alike t_w_havers t_g_left t_g_guessed t_g_wrong t_n_size t_n_cells t_m_size t_m_cells t_p_size t_p_cells im k_size k_place k_sort k_number k_behind k_bytes d_kind d_secret d_w_size d_w_codes d_w_masks d_w_alike d_w_havers d_g_left d_g_guessed d_g_wrong d_n_size d_n_cells d_m_size d_m_cells d_p_size d_p_cells fr_above fr_below su_fewest tr_left tr_guessed tr_wrong wp sk) s.heap) (hl : lv_has ls 4 [(0, .ref a_h), (1, .long x1), (3, .int x3)]) (hf : B_X10_digest_33 t_w_size t_w_codes x1 x3 = some z) : W p l e rm_X10_digest s m args below meth c s.heap [] 0 0 Q (F0 m 33 ls []) := by
  obtain ⟨hx, hb, hml, hown, hts⟩ := id CF
  unfold B_X10_digest_33 at hf
  refine lv_iload_n hx hb dX10_digest_33 rfl (lv_at hl 2 rfl) ?_
  refine lv_aload_n hx hb dX10_digest_34 rfl (lv_at hl 0 rfl) ?_
  refine va_get (D := D) (ci := 8) (v := .ref a_t) (C := RX10) (T := TX10) (N := 11) hx hb hts fin_X10 hown hG.1 hP 0 ce_h_0 vq_8 0 (by decide) (hts _ wm_292) (fun _ h9 => h9) rfl dX10_digest_35 ?_
  refine va_get (D := D) (ci := 5) (v := .ref a_t_w) (C := RX7) (T := TX7) (N := 7) hx hb hts fin_X7 hown hG.1 hP 1 ce_h_1 vq_5 0 (by decide) (hts _ wm_185) (fun _ h9 => h9) rfl dX10_digest_38 ?_
  refine va_get (D := D) (ci := 7) (v := .int t_w_size) (C := RX9) (T := TX9) (N := 5) hx hb hts fin_X9 hown hG.1 hP 2 ce_h_2 vq_7 0 (by decide) (hts _ wm_124) (fun _ h9 => h9) rfl dX10_digest_41 ?_
  refine lv_icmp_ge (tgt := 72) hx hb dX10_digest_44 (by decide) (fun c6 => ?_) (fun c6 => ?_)
  · have hf := tk c6 hf
    exact hx0 _ _ (Option.some.inj hf).symm (lv_sub hl [0, 1] rfl)
  · have hf := fk c6 hf
    refine lv_ldc2 (v := (31 : Int64)) hx hb hown (hts _ wm_901) dX10_digest_47 ?_
    refine lv_lload_n hx hb dX10_digest_50 rfl (lv_at hl 1 rfl) ?_
    refine lv_lmul hx hb dX10_digest_51 ?_
    refine lv_aload_n hx hb dX10_digest_52 rfl (lv_at hl 0 rfl) ?_
    refine va_get (D := D) (ci := 8) (v := .ref a_t) (C := RX10) (T := TX10) (N := 11) hx hb hts fin_X10 hown hG.1 hP 0 ce_h_0 vq_8 0 (by decide) (hts _ wm_292) (fun _ h9 => h9) rfl dX10_digest_53 ?_
    refine va_get (D := D) (ci := 5) (v := .ref a_t_w) (C := RX7) (T := TX7) (N := 7) hx hb hts fin_X7 hown hG.1 hP 1 ce_h_1 vq_5 0 (by decide) (hts _ wm_185) (fun _ h9 => h9) rfl dX10_digest_56 ?_
    refine lv_iload_n hx hb dX10_digest_59 rfl (lv_at hl 2 rfl) ?_
    obtain ⟨o7, e8, hf⟩ := lp_bind hf
    have hPc : va_P D vwCl (wd_w a_t_w a_t_w_codes a_t_w_masks a_t_w_alike a_t_w_havers cI cB cT t_w_size t_w_codes t_w_masks t_w_alike t_w_havers) s.heap := su_18 hP
    refine ro_Vi (x := o7) (As := [.int x3]) (rest := [.long ((31 : Int64) * x1)]) CF (c_X9_codeOf l D cI cB cT a_t_w a_t_w_codes a_t_w_masks a_t_w_alike a_t_w_havers t_w_size t_w_codes t_w_masks t_w_alike t_w_havers x3 e8) ok_X9_codeOf wm_653 ⟨rfl, rfl, Nat.le_of_ble_eq_true rfl, Nat.le_of_ble_eq_true rfl⟩ hG hPc 0 7 vq_7 rfl ce_w_0 rfl hl.1 rfl (Nat.le_of_ble_eq_true rfl) ⟨Nat.zero_le _, Nat.zero_le _⟩ dX10_digest_60 ?_
    refine lv_i2l hx hb dX10_digest_63 rfl ?_
    refine lv_ladd hx hb dX10_digest_64 ?_
    refine lv_lstore_n (lv' := [(1, .long (((31 : Int64) * x1) + (o7).toInt64)), (0, .ref a_h), (3, .int x3)]) hx hb dX10_digest_65 rfl hl (by decide) rfl (fun ls hl => ?_)
    refine lv_iinc (v := (x3 + (1 : Int32))) (lv' := [(3, .int (x3 + (1 : Int32))), (1, .long (((31 : Int64) * x1) + (o7).toInt64)), (0, .ref a_h)]) hx hb dX10_digest_66 hl (k := 2) rfl (iinc_eq (by decide)) (by decide) rfl (fun ls hl => ?_)
    refine lv_goto (tgt := 33) hx hb dX10_digest_69 (by decide) ?_
    exact hk _ _ (Option.some.inj hf).symm (lv_sub hl [2, 1, 0] rfl)
set_option maxHeartbeats 4000000 in
set_option maxRecDepth 100000 in
theorem L_X10_digest_33_W {rb : Int32} {rn : Int32} {rf : Int32} {t_kind : Int32} {t_secret : Int32} {t_w_size : Int32} {t_w_codes : (Nat → Int32)} {t_w_masks : (Nat → Int32)} {t_w_alike : (Nat → Int32)} {t_w_havers : (Nat → Int32)} {t_g_left : Int32} {t_g_guessed : Int32} {t_g_wrong : Int32} {t_n_size : Int32} {t_n_cells : (Nat → Int32)} {t_m_size : Int32} {t_m_cells : (Nat → Int32)} {t_p_size : Int32} {t_p_cells : (Nat → Int32)} {im : (Nat → Option Nat)} {k_size : Int32} {k_place : Int32} {k_sort : Int32} {k_number : Int32} {k_behind : Int32} {k_bytes : (Nat → Int32)} {d_kind : Int32} {d_secret : Int32} {d_w_size : Int32} {d_w_codes : (Nat → Int32)} {d_w_masks : (Nat → Int32)} {d_w_alike : (Nat → Int32)} {d_w_havers : (Nat → Int32)} {d_g_left : Int32} {d_g_guessed : Int32} {d_g_wrong : Int32} {d_n_size : Int32} {d_n_cells : (Nat → Int32)} {d_m_size : Int32} {d_m_cells : (Nat → Int32)} {d_p_size : Int32} {d_p_cells : (Nat → Int32)} {fr_above : Int64} {fr_below : Int64} {su_fewest : (Nat → Int32)} {tr_left : Int32} {tr_guessed : Int32} {tr_wrong : Int32} {wp : (Nat → Int32)} {sk : (Nat → Int32)} (CF : CallFix p m c cX10_digest 4 s args wsAll RX10) (hG : Gd D cI cB cT s) {o : Int64} (hx0 : ∀ (ls : Array Slot), lv_has ls 4 [(0, .ref a_h), (1, .long o)] → W p l e rm_X10_digest s m args below meth c s.heap [] 0 0 Q (F0 m 72 ls [])) : ∀ (n : Nat) (x1 : Int64) (x3 : Int32) (ls : Array Slot), va_P D vwCl (wd_h a_h a_t a_t_w a_t_w_codes a_t_w_masks a_t_w_alike a_t_w_havers a_t_g a_t_n a_t_n_cells a_t_m a_t_m_cells a_t_p a_t_p_cells a_im a_k a_k_bytes a_r a_d a_d_w a_d_w_codes a_d_w_masks a_d_w_alike a_d_w_havers a_d_g a_d_n a_d_n_cells a_d_m a_d_m_cells a_d_p a_d_p_cells a_fr a_su a_su_fewest a_tr a_wp a_sk cI cB cT rb rn rf t_kind t_secret t_w_size t_w_codes t_w_masks t_w_alike t_w_havers t_g_left t_g_guessed t_g_wrong t_n_size t_n_cells t_m_size t_m_cells t_p_size t_p_cells im k_size k_place k_sort k_number k_behind k_bytes d_kind d_secret d_w_size d_w_codes d_w_masks d_w_alike d_w_havers d_g_left d_g_guessed d_g_wrong d_n_size d_n_cells d_m_size d_m_cells d_p_size d_p_cells fr_above fr_below su_fewest tr_left tr_guessed tr_wrong wp sk) s.heap → lv_has ls 4 [(0, .ref a_h), (1, .long x1), (3, .int x3)] → lp (fun v => B_X10_digest_33 t_w_size t_w_codes v.1 v.2) n (x1, x3) = some o → W p l e rm_X10_digest s m args below meth c s.heap [] 0 0 Q (F0 m 33 ls []) := by
  intro n
  induction n with
  | zero =>
    intro x1 x3 ls hP hl hf
    exact (lp_zero hf).elim
  | succ n ih =>
    intro x1 x3 ls hP hl hf
    obtain ⟨z, hz, hf⟩ := lp_succ hf
    refine B_X10_digest_33_W CF hG ?_ ?_ hP hl hz
    · intro v' ls ez hl
      rcases hf with ⟨v2, ev, hf⟩ | ev
      · cases Sum.inl.inj (ez.symm.trans ev)
        exact ih v'.1 v'.2 ls hP hl hf
      · exact (lp_lr (ez.symm.trans ev)).elim
    · intro o' ls ez hl
      rcases hf with ⟨v2, ev, hf⟩ | ev
      · exact (lp_lr (ev.symm.trans ez)).elim
      · cases Sum.inr.inj (ez.symm.trans ev)
        exact hx0 ls  hl
set_option maxHeartbeats 4000000 in
set_option maxRecDepth 100000 in
theorem c_X10_digest (l : Launch) (D : va_G) (cI cB cT : ClassId) (a_h a_t a_t_w a_t_w_codes a_t_w_masks a_t_w_alike a_t_w_havers a_t_g a_t_n a_t_n_cells a_t_m a_t_m_cells a_t_p a_t_p_cells a_im a_k a_k_bytes a_r a_d a_d_w a_d_w_codes a_d_w_masks a_d_w_alike a_d_w_havers a_d_g a_d_n a_d_n_cells a_d_m a_d_m_cells a_d_p a_d_p_cells a_fr a_su a_su_fewest a_tr a_wp a_sk : Nat) (rb : Int32) (rn : Int32) (rf : Int32) (t_kind : Int32) (t_secret : Int32) (t_w_size : Int32) (t_w_codes : (Nat → Int32)) (t_w_masks : (Nat → Int32)) (t_w_alike : (Nat → Int32)) (t_w_havers : (Nat → Int32)) (t_g_left : Int32) (t_g_guessed : Int32) (t_g_wrong : Int32) (t_n_size : Int32) (t_n_cells : (Nat → Int32)) (t_m_size : Int32) (t_m_cells : (Nat → Int32)) (t_p_size : Int32) (t_p_cells : (Nat → Int32)) (im : (Nat → Option Nat)) (k_size : Int32) (k_place : Int32) (k_sort : Int32) (k_number : Int32) (k_behind : Int32) (k_bytes : (Nat → Int32)) (d_kind : Int32) (d_secret : Int32) (d_w_size : Int32) (d_w_codes : (Nat → Int32)) (d_w_masks : (Nat → Int32)) (d_w_alike : (Nat → Int32)) (d_w_havers : (Nat → Int32)) (d_g_left : Int32) (d_g_guessed : Int32) (d_g_wrong : Int32) (d_n_size : Int32) (d_n_cells : (Nat → Int32)) (d_m_size : Int32) (d_m_cells : (Nat → Int32)) (d_p_size : Int32) (d_p_cells : (Nat → Int32)) (fr_above : Int64) (fr_below : Int64) (su_fewest : (Nat → Int32)) (tr_left : Int32) (tr_guessed : Int32) (tr_wrong : Int32) (wp : (Nat → Int32)) (sk : (Nat → Int32)) {z : Int64} (hf : f_X10_digest t_kind t_secret t_w_size t_w_codes t_g_left t_g_guessed t_g_wrong t_n_size t_n_cells t_m_size t_m_cells t_p_size k_size fr_above fr_below = some z) :
    Met l yX10_digest (Cond.code yX10_digest cX10_digest 4 (some .long) :: wsAll) rm_X10_digest (Pro [.ref a_h] D cI cB cT (wd_h a_h a_t a_t_w a_t_w_codes a_t_w_masks a_t_w_alike a_t_w_havers a_t_g a_t_n a_t_n_cells a_t_m a_t_m_cells a_t_p a_t_p_cells a_im a_k a_k_bytes a_r a_d a_d_w a_d_w_codes a_d_w_masks a_d_w_alike a_d_w_havers a_d_g a_d_n a_d_n_cells a_d_m a_d_m_cells a_d_p a_d_p_cells a_fr a_su a_su_fewest a_tr a_wp a_sk cI cB cT rb rn rf t_kind t_secret t_w_size t_w_codes t_w_masks t_w_alike t_w_havers t_g_left t_g_guessed t_g_wrong t_n_size t_n_cells t_m_size t_m_cells t_p_size t_p_cells im k_size k_place k_sort k_number k_behind k_bytes d_kind d_secret d_w_size d_w_codes d_w_masks d_w_alike d_w_havers d_g_left d_g_guessed d_g_wrong d_n_size d_n_cells d_m_size d_m_cells d_p_size d_p_cells fr_above fr_below su_fewest tr_left tr_guessed tr_wrong wp sk)) (Qr (some (.long z))) 0 0 (fun _ => False) := by
  refine ro_intro RX10 (by decide +kernel) rfl (Nat.le_of_ble_eq_true rfl) ?_
  intro p e s m below meth c ls CF hr hlk hG hP hl
  have hl : lv_has ls 4 [(0, .ref a_h)] := hl
  obtain ⟨hx, hb, hml, hown, hts⟩ := id CF
  unfold f_X10_digest at hf
  refine lv_ldc2 (v := (1823 : Int64)) hx hb hown (hts _ wm_900) dX10_digest_0 ?_
  refine lv_lstore_n (lv' := [(1, .long (1823 : Int64)), (0, .ref a_h)]) hx hb dX10_digest_3 rfl hl (by decide) rfl (fun ls hl => ?_)
  refine lv_iconst (v := (0 : Int32)) hx hb dX10_digest_4 (by decide) ?_
  refine lv_istore_n (lv' := [(3, .int (0 : Int32)), (1, .long (1823 : Int64)), (0, .ref a_h)]) hx hb dX10_digest_5 rfl hl (by decide) rfl (fun ls hl => ?_)
  obtain ⟨o4, e5, hf⟩ := lp_bind hf
  refine L_X10_digest_6_W CF hG ?_ KN _ _ _ hP (lv_sub hl [2, 1, 0] rfl) e5
  intro ls hl
  refine lv_iconst (v := (0 : Int32)) hx hb dX10_digest_31 (by decide) ?_
  refine lv_istore_n (lv' := [(3, .int (0 : Int32)), (0, .ref a_h), (1, .long o4)]) hx hb dX10_digest_32 rfl hl (by decide) rfl (fun ls hl => ?_)
  obtain ⟨o9, e10, hf⟩ := lp_bind hf
  refine L_X10_digest_33_W CF hG ?_ KN _ _ _ hP (lv_sub hl [1, 2, 0] rfl) e10
  intro ls hl
  refine lv_ldc2 (v := (31 : Int64)) hx hb hown (hts _ wm_901) dX10_digest_72 ?_
  refine lv_lload_n hx hb dX10_digest_75 rfl (lv_at hl 1 rfl) ?_
  refine lv_lmul hx hb dX10_digest_76 ?_
  refine lv_aload_n hx hb dX10_digest_77 rfl (lv_at hl 0 rfl) ?_
  refine va_get (D := D) (ci := 8) (v := .ref a_t) (C := RX10) (T := TX10) (N := 11) hx hb hts fin_X10 hown hG.1 hP 0 ce_h_0 vq_8 0 (by decide) (hts _ wm_292) (fun _ h9 => h9) rfl dX10_digest_78 ?_
  refine va_get (D := D) (ci := 5) (v := .ref a_t_g) (C := RX7) (T := TX7) (N := 7) hx hb hts fin_X7 hown hG.1 hP 1 ce_h_1 vq_5 1 (by decide) (hts _ wm_189) (fun _ h9 => h9) rfl dX10_digest_81 ?_
  refine va_get (D := D) (ci := 1) (v := .int t_g_left) (C := RX1) (T := TX1) (N := 3) hx hb hts fin_X1 hown hG.1 hP 7 ce_h_7 vq_1 0 (by decide) (hts _ wm_151) (fun _ h9 => h9) rfl dX10_digest_84 ?_
  refine lv_i2l hx hb dX10_digest_87 rfl ?_
  refine lv_ladd hx hb dX10_digest_88 ?_
  refine lv_lstore_n (lv' := [(1, .long (((31 : Int64) * o9) + (t_g_left).toInt64)), (0, .ref a_h)]) hx hb dX10_digest_89 rfl hl (by decide) rfl (fun ls hl => ?_)
  refine lv_ldc2 (v := (31 : Int64)) hx hb hown (hts _ wm_901) dX10_digest_90 ?_
  refine lv_lload_n hx hb dX10_digest_93 rfl (lv_at hl 0 rfl) ?_
  refine lv_lmul hx hb dX10_digest_94 ?_
  refine lv_aload_n hx hb dX10_digest_95 rfl (lv_at hl 1 rfl) ?_
  refine va_get (D := D) (ci := 8) (v := .ref a_t) (C := RX10) (T := TX10) (N := 11) hx hb hts fin_X10 hown hG.1 hP 0 ce_h_0 vq_8 0 (by decide) (hts _ wm_292) (fun _ h9 => h9) rfl dX10_digest_96 ?_
  refine va_get (D := D) (ci := 5) (v := .ref a_t_g) (C := RX7) (T := TX7) (N := 7) hx hb hts fin_X7 hown hG.1 hP 1 ce_h_1 vq_5 1 (by decide) (hts _ wm_189) (fun _ h9 => h9) rfl dX10_digest_99 ?_
  refine va_get (D := D) (ci := 1) (v := .int t_g_guessed) (C := RX1) (T := TX1) (N := 3) hx hb hts fin_X1 hown hG.1 hP 7 ce_h_7 vq_1 1 (by decide) (hts _ wm_155) (fun _ h9 => h9) rfl dX10_digest_102 ?_
  refine lv_i2l hx hb dX10_digest_105 rfl ?_
  refine lv_ladd hx hb dX10_digest_106 ?_
  obtain ⟨o11, e12, hf⟩ := lp_bind hf
  refine lv_topl (fun y13 ey13 => ?_)
  obtain rfl : o11 = y13 := (Option.some.inj e12).symm.trans ey13.symm
  refine lv_lstore_n (lv' := [(1, .long o11), (0, .ref a_h)]) hx hb dX10_digest_107 rfl hl (by decide) rfl (fun ls hl => ?_)
  refine lv_aload_n hx hb dX10_digest_108 rfl (lv_at hl 1 rfl) ?_
  refine va_get (D := D) (ci := 8) (v := .ref a_t) (C := RX10) (T := TX10) (N := 11) hx hb hts fin_X10 hown hG.1 hP 0 ce_h_0 vq_8 0 (by decide) (hts _ wm_292) (fun _ h9 => h9) rfl dX10_digest_109 ?_
  refine va_get (D := D) (ci := 5) (v := .ref a_t_n) (C := RX7) (T := TX7) (N := 7) hx hb hts fin_X7 hown hG.1 hP 1 ce_h_1 vq_5 2 (by decide) (hts _ wm_191) (fun _ h9 => h9) rfl dX10_digest_112 ?_
  refine lv_lload_n hx hb dX10_digest_115 rfl (lv_at hl 0 rfl) ?_
  refine lv_iconst (v := (4 : Int32)) hx hb dX10_digest_116 (by decide) ?_
  obtain ⟨o14, e15, hf⟩ := lp_bind hf
  have hPc : va_P D vwCl (wd_q a_t_n a_t_n_cells cI cB cT 24 t_n_size t_n_cells) s.heap := su_27 hP
  refine ro_Vl (x := o14) (As := [.long o11, .int (4 : Int32)]) (rest := []) CF (c_X5_digestOn l D cI cB cT a_t_n a_t_n_cells 24 t_n_size t_n_cells o11 (4 : Int32) e15) ok_X5_digestOn wm_902 ⟨rfl, rfl, Nat.le_of_ble_eq_true rfl, Nat.le_of_ble_eq_true rfl⟩ hG hPc 0 3 vq_3 rfl ce_q_0 rfl hl.1 rfl (Nat.le_of_ble_eq_true rfl) ⟨Nat.zero_le _, Nat.zero_le _⟩ dX10_digest_117 ?_
  refine lv_lstore_n (lv' := [(1, .long o14), (0, .ref a_h)]) hx hb dX10_digest_120 rfl hl (by decide) rfl (fun ls hl => ?_)
  refine lv_aload_n hx hb dX10_digest_121 rfl (lv_at hl 1 rfl) ?_
  refine va_get (D := D) (ci := 8) (v := .ref a_t) (C := RX10) (T := TX10) (N := 11) hx hb hts fin_X10 hown hG.1 hP 0 ce_h_0 vq_8 0 (by decide) (hts _ wm_292) (fun _ h9 => h9) rfl dX10_digest_122 ?_
  refine va_get (D := D) (ci := 5) (v := .ref a_t_m) (C := RX7) (T := TX7) (N := 7) hx hb hts fin_X7 hown hG.1 hP 1 ce_h_1 vq_5 3 (by decide) (hts _ wm_193) (fun _ h9 => h9) rfl dX10_digest_125 ?_
  refine lv_lload_n hx hb dX10_digest_128 rfl (lv_at hl 0 rfl) ?_
  refine lv_iconst (v := (3 : Int32)) hx hb dX10_digest_129 (by decide) ?_
  obtain ⟨o16, e17, hf⟩ := lp_bind hf
  have hPc : va_P D vwCl (wd_q a_t_m a_t_m_cells cI cB cT 24 t_m_size t_m_cells) s.heap := su_28 hP
  refine ro_Vl (x := o16) (As := [.long o14, .int (3 : Int32)]) (rest := []) CF (c_X5_digestOn l D cI cB cT a_t_m a_t_m_cells 24 t_m_size t_m_cells o14 (3 : Int32) e17) ok_X5_digestOn wm_902 ⟨rfl, rfl, Nat.le_of_ble_eq_true rfl, Nat.le_of_ble_eq_true rfl⟩ hG hPc 0 3 vq_3 rfl ce_q_0 rfl hl.1 rfl (Nat.le_of_ble_eq_true rfl) ⟨Nat.zero_le _, Nat.zero_le _⟩ dX10_digest_130 ?_
  refine lv_lstore_n (lv' := [(1, .long o16), (0, .ref a_h)]) hx hb dX10_digest_133 rfl hl (by decide) rfl (fun ls hl => ?_)
  refine lv_ldc2 (v := (31 : Int64)) hx hb hown (hts _ wm_901) dX10_digest_134 ?_
  refine lv_lload_n hx hb dX10_digest_137 rfl (lv_at hl 0 rfl) ?_
  refine lv_lmul hx hb dX10_digest_138 ?_
  refine lv_aload_n hx hb dX10_digest_139 rfl (lv_at hl 1 rfl) ?_
  refine va_get (D := D) (ci := 8) (v := .ref a_fr) (C := RX10) (T := TX10) (N := 11) hx hb hts fin_X10 hown hG.1 hP 0 ce_h_0 vq_8 3 (by decide) (hts _ wm_295) (fun _ h9 => h9) rfl dX10_digest_140 ?_
  refine va_get (D := D) (ci := 0) (v := .long fr_above) (C := RX0) (T := TX0) (N := 2) hx hb hts fin_X0 hown hG.1 hP 31 ce_h_31 vq_0 0 (by decide) (hts _ wm_272) (fun _ h9 => h9) rfl dX10_digest_143 ?_
  refine lv_ladd hx hb dX10_digest_146 ?_
  refine lv_lstore_n (lv' := [(1, .long (((31 : Int64) * o16) + fr_above)), (0, .ref a_h)]) hx hb dX10_digest_147 rfl hl (by decide) rfl (fun ls hl => ?_)
  refine lv_ldc2 (v := (31 : Int64)) hx hb hown (hts _ wm_901) dX10_digest_148 ?_
  refine lv_lload_n hx hb dX10_digest_151 rfl (lv_at hl 0 rfl) ?_
  refine lv_lmul hx hb dX10_digest_152 ?_
  refine lv_aload_n hx hb dX10_digest_153 rfl (lv_at hl 1 rfl) ?_
  refine va_get (D := D) (ci := 8) (v := .ref a_fr) (C := RX10) (T := TX10) (N := 11) hx hb hts fin_X10 hown hG.1 hP 0 ce_h_0 vq_8 3 (by decide) (hts _ wm_295) (fun _ h9 => h9) rfl dX10_digest_154 ?_
  refine va_get (D := D) (ci := 0) (v := .long fr_below) (C := RX0) (T := TX0) (N := 2) hx hb hts fin_X0 hown hG.1 hP 31 ce_h_31 vq_0 1 (by decide) (hts _ wm_274) (fun _ h9 => h9) rfl dX10_digest_157 ?_
  refine lv_ladd hx hb dX10_digest_160 ?_
  obtain rfl := Option.some.inj hf
  exact ro_lret CF hr hlk dX10_digest_161
end M_X10_digest
