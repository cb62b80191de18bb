def nn_f (b : Int32) : Int32 := if 2 ≤ b then (if b ≤ 9 then b else 9) else 2
def kk_f (a b : Int32) : Int32 := if 2 ≤ a then (if a ≤ nn_f b then a else nn_f b) else 2
theorem nn_2 {b : Int32} (h : 2 ≤ b) (h2 : ¬ b ≤ 9) : 9 = nn_f b := by unfold nn_f; rw [if_pos h, if_neg h2]
theorem nn_3 {b : Int32} (h : 2 ≤ b) (h2 : b ≤ 9) : b = nn_f b := by unfold nn_f; rw [if_pos h, if_pos h2]
theorem kk_2 {a b : Int32} (h : 2 ≤ a) (h2 : ¬ a ≤ nn_f b) : nn_f b = kk_f a b := by unfold kk_f; rw [if_pos h, if_neg h2]
theorem kk_3 {a b : Int32} (h : 2 ≤ a) (h2 : a ≤ nn_f b) : a = kk_f a b := by unfold kk_f; rw [if_pos h, if_pos h2]
theorem d_M_init_0 : decode b_M_init 0 = .ok (.aload_n 0, 1) := by decide +kernel
theorem d_M_init_1 : decode b_M_init 1 = .ok (.invokespecial 1, 3) := by decide +kernel
theorem d_M_init_4 : decode b_M_init 4 = .ok (.aload_n 0, 1) := by decide +kernel
theorem d_M_init_5 : decode b_M_init 5 = .ok (.sipush 1000, 3) := by decide +kernel
theorem d_M_init_8 : decode b_M_init 8 = .ok (.newarray .int, 2) := by decide +kernel
theorem d_M_init_10 : decode b_M_init 10 = .ok (.putfield 7, 3) := by decide +kernel
theorem d_M_init_13 : decode b_M_init 13 = .ok (.aload_n 0, 1) := by decide +kernel
theorem d_M_init_14 : decode b_M_init 14 = .ok (.sipush 1000, 3) := by decide +kernel
theorem d_M_init_17 : decode b_M_init 17 = .ok (.newarray .int, 2) := by decide +kernel
theorem d_M_init_19 : decode b_M_init 19 = .ok (.putfield 13, 3) := by decide +kernel
theorem d_M_init_22 : decode b_M_init 22 = .ok (.aload_n 0, 1) := by decide +kernel
theorem d_M_init_23 : decode b_M_init 23 = .ok (.bipush 8, 2) := by decide +kernel
theorem d_M_init_25 : decode b_M_init 25 = .ok (.newarray .int, 2) := by decide +kernel
theorem d_M_init_27 : decode b_M_init 27 = .ok (.putfield 16, 3) := by decide +kernel
theorem d_M_init_30 : decode b_M_init 30 = .ok (.aload_n 0, 1) := by decide +kernel
theorem d_M_init_31 : decode b_M_init 31 = .ok (.sipush 576, 3) := by decide +kernel
theorem d_M_init_34 : decode b_M_init 34 = .ok (.newarray .int, 2) := by decide +kernel
theorem d_M_init_36 : decode b_M_init 36 = .ok (.putfield 19, 3) := by decide +kernel
theorem d_M_init_39 : decode b_M_init 39 = .ok (.aload_n 0, 1) := by decide +kernel
theorem d_M_init_40 : decode b_M_init 40 = .ok (.sipush 576, 3) := by decide +kernel
theorem d_M_init_43 : decode b_M_init 43 = .ok (.newarray .int, 2) := by decide +kernel
theorem d_M_init_45 : decode b_M_init 45 = .ok (.putfield 22, 3) := by decide +kernel
theorem d_M_init_48 : decode b_M_init 48 = .ok (.aload_n 0, 1) := by decide +kernel
theorem d_M_init_49 : decode b_M_init 49 = .ok (.bipush 10, 2) := by decide +kernel
theorem d_M_init_51 : decode b_M_init 51 = .ok (.newarray .boolean, 2) := by decide +kernel
theorem d_M_init_53 : decode b_M_init 53 = .ok (.putfield 25, 3) := by decide +kernel
theorem d_M_init_56 : decode b_M_init 56 = .ok (.aload_n 0, 1) := by decide +kernel
theorem d_M_init_57 : decode b_M_init 57 = .ok (.sipush 192, 3) := by decide +kernel
theorem d_M_init_60 : decode b_M_init 60 = .ok (.newarray .int, 2) := by decide +kernel
theorem d_M_init_62 : decode b_M_init 62 = .ok (.putfield 29, 3) := by decide +kernel
theorem d_M_init_65 : decode b_M_init 65 = .ok (.aload_n 0, 1) := by decide +kernel
theorem d_M_init_66 : decode b_M_init 66 = .ok (.iconst (-1), 1) := by decide +kernel
theorem d_M_init_67 : decode b_M_init 67 = .ok (.putfield 32, 3) := by decide +kernel
theorem d_M_init_70 : decode b_M_init 70 = .ok (.aload_n 0, 1) := by decide +kernel
theorem d_M_init_71 : decode b_M_init 71 = .ok (.iconst (-1), 1) := by decide +kernel
theorem d_M_init_72 : decode b_M_init 72 = .ok (.putfield 36, 3) := by decide +kernel
theorem d_M_init_75 : decode b_M_init 75 = .ok (.aload_n 0, 1) := by decide +kernel
theorem d_M_init_76 : decode b_M_init 76 = .ok (.bipush 10, 2) := by decide +kernel
theorem d_M_init_78 : decode b_M_init 78 = .ok (.newarray .int, 2) := by decide +kernel
theorem d_M_init_80 : decode b_M_init 80 = .ok (.putfield 39, 3) := by decide +kernel
theorem d_M_init_83 : decode b_M_init 83 = .ok (.aload_n 0, 1) := by decide +kernel
theorem d_M_init_84 : decode b_M_init 84 = .ok (.bipush 10, 2) := by decide +kernel
theorem d_M_init_86 : decode b_M_init 86 = .ok (.newarray .int, 2) := by decide +kernel
theorem d_M_init_88 : decode b_M_init 88 = .ok (.putfield 42, 3) := by decide +kernel
theorem d_M_init_91 : decode b_M_init 91 = .ok (.aload_n 0, 1) := by decide +kernel
theorem d_M_init_92 : decode b_M_init 92 = .ok (.iload_n 2, 1) := by decide +kernel
theorem d_M_init_93 : decode b_M_init 93 = .ok (.iconst 2, 1) := by decide +kernel
theorem d_M_init_94 : decode b_M_init 94 = .ok (.if_icmp .ge 7, 3) := by decide +kernel
theorem d_M_init_97 : decode b_M_init 97 = .ok (.iconst 2, 1) := by decide +kernel
theorem d_M_init_98 : decode b_M_init 98 = .ok (.goto 15, 3) := by decide +kernel
theorem d_M_init_101 : decode b_M_init 101 = .ok (.iload_n 2, 1) := by decide +kernel
theorem d_M_init_102 : decode b_M_init 102 = .ok (.bipush 9, 2) := by decide +kernel
theorem d_M_init_104 : decode b_M_init 104 = .ok (.if_icmp .le 8, 3) := by decide +kernel
theorem d_M_init_107 : decode b_M_init 107 = .ok (.bipush 9, 2) := by decide +kernel
theorem d_M_init_109 : decode b_M_init 109 = .ok (.goto 4, 3) := by decide +kernel
theorem d_M_init_112 : decode b_M_init 112 = .ok (.iload_n 2, 1) := by decide +kernel
theorem d_M_init_113 : decode b_M_init 113 = .ok (.putfield 45, 3) := by decide +kernel
theorem d_M_init_116 : decode b_M_init 116 = .ok (.aload_n 0, 1) := by decide +kernel
theorem d_M_init_117 : decode b_M_init 117 = .ok (.iload_n 1, 1) := by decide +kernel
theorem d_M_init_118 : decode b_M_init 118 = .ok (.iconst 2, 1) := by decide +kernel
theorem d_M_init_119 : decode b_M_init 119 = .ok (.if_icmp .ge 7, 3) := by decide +kernel
theorem d_M_init_122 : decode b_M_init 122 = .ok (.iconst 2, 1) := by decide +kernel
theorem d_M_init_123 : decode b_M_init 123 = .ok (.goto 19, 3) := by decide +kernel
theorem d_M_init_126 : decode b_M_init 126 = .ok (.iload_n 1, 1) := by decide +kernel
theorem d_M_init_127 : decode b_M_init 127 = .ok (.aload_n 0, 1) := by decide +kernel
theorem d_M_init_128 : decode b_M_init 128 = .ok (.getfield 45, 3) := by decide +kernel
theorem d_M_init_131 : decode b_M_init 131 = .ok (.if_icmp .le 10, 3) := by decide +kernel
theorem d_M_init_134 : decode b_M_init 134 = .ok (.aload_n 0, 1) := by decide +kernel
theorem d_M_init_135 : decode b_M_init 135 = .ok (.getfield 45, 3) := by decide +kernel
theorem d_M_init_138 : decode b_M_init 138 = .ok (.goto 4, 3) := by decide +kernel
theorem d_M_init_141 : decode b_M_init 141 = .ok (.iload_n 1, 1) := by decide +kernel
theorem d_M_init_142 : decode b_M_init 142 = .ok (.putfield 48, 3) := by decide +kernel
theorem d_M_init_145 : decode b_M_init 145 = .ok (.return_, 1) := by decide +kernel
set_option maxHeartbeats 4000000 in
set_option maxRecDepth 100000 in
theorem c_M_init (l : Launch) (D : va_G) (cI cZ cQ : ClassId) (qm : Nat) (a : Int32) (b : Int32) : sd_N l D (tyL cI cZ cQ) y_M_init b_M_init 3 ({ frames := 2, cells := 9, slots := 3400, locals := 40 }) [.ref qm, .int (a), .int (b)] [(qm, .inr (5, [.int (0), .int (0), .int (0), .int (0), .null, .null, .int (0), .null, .null, .null, .int (0), .null, .int (0), .null, .int (0), .int (0), .int (0), .int (0), .int (0), .int (0), .int (0), .int (0), .int (0), .int (0), .null, .null]))] (fun w9 => ∃ (mp : Nat) (mt : Nat) (ml : Nat) (mc : Nat) (mf : Nat) (me : Nat) (mg : Nat) (mh : Nat) (mu : Nat), w9 = (mW cI cZ qm mp mt ml mc mf me mg mh mu (0) (kk_f a b) (nn_f b) (0) (0) (0) (0) ((-1)) (0) ((-1)) (0) (0) (0) (0) (0) (0) (0) (1000) (fun _ => 0) (1000) (fun _ => 0) (8) (fun _ => 0) (576) (fun _ => 0) (576) (fun _ => 0) (10) (fun _ => 0) (192) (fun _ => 0) (10) (fun _ => 0) (10) (fun _ => 0))) := by
  refine sd_ofN (by decide) rfl (Nat.le_of_ble_eq_true rfl) ?_
  intro p e s m below meth c A ls hx hb hr hml hlk hown hts hK hP hD hA hS hl hZ hin
  have hl : lv_has ls 3 [(0, .ref qm), (1, .int (a)), (2, .int (b))] := hl
  refine lv_aload_n hx hb d_M_init_0 rfl (lv_at hl 0 rfl) ?_
  refine W.objInit hx hb hown (hts _ wm_M_1) (hts _ wo_object) (hts _ wc_object) rfl (by rw [hml]; exact hl.1) rfl d_M_init_1 (Nat.le_of_ble_eq_true rfl) (Nat.le_of_ble_eq_true rfl) ?_
  refine W.eq (g2 := F0 m 4 ls []) rfl ?_
  refine lv_aload_n hx hb d_M_init_4 rfl (lv_at hl 0 rfl) ?_
  refine lv_sipush (v := nI 1000) hx hb d_M_init_5 (by decide) ?_
  refine sd_newI (N := 1000) hx hb hts hK hP hD hS hA (by omega) (by dsimp only; omega) (by dsimp only; omega) d_M_init_8 (fun mp H hP hD hS => ?_)
  have hP : va_P D cls [(qm, .inr (5, [.int (0), .int (0), .int (0), .int (0), .null, .null, .int (0), .null, .null, .null, .int (0), .null, .int (0), .null, .int (0), .int (0), .int (0), .int (0), .int (0), .int (0), .int (0), .int (0), .int (0), .int (0), .null, .null])), (mp, .inl (cI, 1000, .inl (fun _ => 0)))] H := hP
  have hD : va_D A [(qm, .inr (5, [.int (0), .int (0), .int (0), .int (0), .null, .null, .int (0), .null, .null, .null, .int (0), .null, .int (0), .null, .int (0), .int (0), .int (0), .int (0), .int (0), .int (0), .int (0), .int (0), .int (0), .int (0), .null, .null])), (mp, .inl (cI, 1000, .inl (fun _ => 0)))] := hD
  refine va_putF (D := D) (ci := 5) (v := .ref mp) (ty := .array .int) (C := R_M) (T := F_M) (N := 26) hx hb hts wl_M t_M t_M_ok n_M hown hK hP hD hS 0 rfl rfl 4 (by decide) (hts _ wf_M_7) (fun _ h9 => h9) rfl hin rfl (by decide +kernel) rfl rfl (Nat.le_of_ble_eq_true rfl) d_M_init_10 (fun H locs hP hD hS => ?_)
  have hP : va_P D cls [(qm, .inr (5, [.int (0), .int (0), .int (0), .int (0), .ref mp, .null, .int (0), .null, .null, .null, .int (0), .null, .int (0), .null, .int (0), .int (0), .int (0), .int (0), .int (0), .int (0), .int (0), .int (0), .int (0), .int (0), .null, .null])), (mp, .inl (cI, 1000, .inl (fun _ => 0)))] H := hP
  have hD : va_D A [(qm, .inr (5, [.int (0), .int (0), .int (0), .int (0), .ref mp, .null, .int (0), .null, .null, .null, .int (0), .null, .int (0), .null, .int (0), .int (0), .int (0), .int (0), .int (0), .int (0), .int (0), .int (0), .int (0), .int (0), .null, .null])), (mp, .inl (cI, 1000, .inl (fun _ => 0)))] := hD
  refine lv_aload_n hx hb d_M_init_13 rfl (lv_at hl 0 rfl) ?_
  refine lv_sipush (v := nI 1000) hx hb d_M_init_14 (by decide) ?_
  refine sd_newI (N := 1000) hx hb hts hK hP hD hS hA (by omega) (by dsimp only; omega) (by dsimp only; omega) d_M_init_17 (fun mt H hP hD hS => ?_)
  have hP : va_P D cls [(qm, .inr (5, [.int (0), .int (0), .int (0), .int (0), .ref mp, .null, .int (0), .null, .null, .null, .int (0), .null, .int (0), .null, .int (0), .int (0), .int (0), .int (0), .int (0), .int (0), .int (0), .int (0), .int (0), .int (0), .null, .null])), (mp, .inl (cI, 1000, .inl (fun _ => 0))), (mt, .inl (cI, 1000, .inl (fun _ => 0)))] H := hP
  have hD : va_D A [(qm, .inr (5, [.int (0), .int (0), .int (0), .int (0), .ref mp, .null, .int (0), .null, .null, .null, .int (0), .null, .int (0), .null, .int (0), .int (0), .int (0), .int (0), .int (0), .int (0), .int (0), .int (0), .int (0), .int (0), .null, .null])), (mp, .inl (cI, 1000, .inl (fun _ => 0))), (mt, .inl (cI, 1000, .inl (fun _ => 0)))] := hD
  refine va_putF (D := D) (ci := 5) (v := .ref mt) (ty := .array .int) (C := R_M) (T := F_M) (N := 26) hx hb hts wl_M t_M t_M_ok n_M hown hK hP hD hS 0 rfl rfl 5 (by decide) (hts _ wf_M_13) (fun _ h9 => h9) rfl hin rfl (by decide +kernel) rfl rfl (Nat.le_of_ble_eq_true rfl) d_M_init_19 (fun H locs hP hD hS => ?_)
  have hP : va_P D cls [(qm, .inr (5, [.int (0), .int (0), .int (0), .int (0), .ref mp, .ref mt, .int (0), .null, .null, .null, .int (0), .null, .int (0), .null, .int (0), .int (0), .int (0), .int (0), .int (0), .int (0), .int (0), .int (0), .int (0), .int (0), .null, .null])), (mp, .inl (cI, 1000, .inl (fun _ => 0))), (mt, .inl (cI, 1000, .inl (fun _ => 0)))] H := hP
  have hD : va_D A [(qm, .inr (5, [.int (0), .int (0), .int (0), .int (0), .ref mp, .ref mt, .int (0), .null, .null, .null, .int (0), .null, .int (0), .null, .int (0), .int (0), .int (0), .int (0), .int (0), .int (0), .int (0), .int (0), .int (0), .int (0), .null, .null])), (mp, .inl (cI, 1000, .inl (fun _ => 0))), (mt, .inl (cI, 1000, .inl (fun _ => 0)))] := hD
  refine lv_aload_n hx hb d_M_init_22 rfl (lv_at hl 0 rfl) ?_
  refine lv_bipush (v := nI 8) hx hb d_M_init_23 (by decide) ?_
  refine sd_newI (N := 8) hx hb hts hK hP hD hS hA (by omega) (by dsimp only; omega) (by dsimp only; omega) d_M_init_25 (fun ml H hP hD hS => ?_)
  have hP : va_P D cls [(qm, .inr (5, [.int (0), .int (0), .int (0), .int (0), .ref mp, .ref mt, .int (0), .null, .null, .null, .int (0), .null, .int (0), .null, .int (0), .int (0), .int (0), .int (0), .int (0), .int (0), .int (0), .int (0), .int (0), .int (0), .null, .null])), (mp, .inl (cI, 1000, .inl (fun _ => 0))), (mt, .inl (cI, 1000, .inl (fun _ => 0))), (ml, .inl (cI, 8, .inl (fun _ => 0)))] H := hP
  have hD : va_D A [(qm, .inr (5, [.int (0), .int (0), .int (0), .int (0), .ref mp, .ref mt, .int (0), .null, .null, .null, .int (0), .null, .int (0), .null, .int (0), .int (0), .int (0), .int (0), .int (0), .int (0), .int (0), .int (0), .int (0), .int (0), .null, .null])), (mp, .inl (cI, 1000, .inl (fun _ => 0))), (mt, .inl (cI, 1000, .inl (fun _ => 0))), (ml, .inl (cI, 8, .inl (fun _ => 0)))] := hD
  refine va_putF (D := D) (ci := 5) (v := .ref ml) (ty := .array .int) (C := R_M) (T := F_M) (N := 26) hx hb hts wl_M t_M t_M_ok n_M hown hK hP hD hS 0 rfl rfl 7 (by decide) (hts _ wf_M_16) (fun _ h9 => h9) rfl hin rfl (by decide +kernel) rfl rfl (Nat.le_of_ble_eq_true rfl) d_M_init_27 (fun H locs hP hD hS => ?_)
  have hP : va_P D cls [(qm, .inr (5, [.int (0), .int (0), .int (0), .int (0), .ref mp, .ref mt, .int (0), .ref ml, .null, .null, .int (0), .null, .int (0), .null, .int (0), .int (0), .int (0), .int (0), .int (0), .int (0), .int (0), .int (0), .int (0), .int (0), .null, .null])), (mp, .inl (cI, 1000, .inl (fun _ => 0))), (mt, .inl (cI, 1000, .inl (fun _ => 0))), (ml, .inl (cI, 8, .inl (fun _ => 0)))] H := hP
  have hD : va_D A [(qm, .inr (5, [.int (0), .int (0), .int (0), .int (0), .ref mp, .ref mt, .int (0), .ref ml, .null, .null, .int (0), .null, .int (0), .null, .int (0), .int (0), .int (0), .int (0), .int (0), .int (0), .int (0), .int (0), .int (0), .int (0), .null, .null])), (mp, .inl (cI, 1000, .inl (fun _ => 0))), (mt, .inl (cI, 1000, .inl (fun _ => 0))), (ml, .inl (cI, 8, .inl (fun _ => 0)))] := hD
  refine lv_aload_n hx hb d_M_init_30 rfl (lv_at hl 0 rfl) ?_
  refine lv_sipush (v := nI 576) hx hb d_M_init_31 (by decide) ?_
  refine sd_newI (N := 576) hx hb hts hK hP hD hS hA (by omega) (by dsimp only; omega) (by dsimp only; omega) d_M_init_34 (fun mc H hP hD hS => ?_)
  have hP : va_P D cls [(qm, .inr (5, [.int (0), .int (0), .int (0), .int (0), .ref mp, .ref mt, .int (0), .ref ml, .null, .null, .int (0), .null, .int (0), .null, .int (0), .int (0), .int (0), .int (0), .int (0), .int (0), .int (0), .int (0), .int (0), .int (0), .null, .null])), (mp, .inl (cI, 1000, .inl (fun _ => 0))), (mt, .inl (cI, 1000, .inl (fun _ => 0))), (ml, .inl (cI, 8, .inl (fun _ => 0))), (mc, .inl (cI, 576, .inl (fun _ => 0)))] H := hP
  have hD : va_D A [(qm, .inr (5, [.int (0), .int (0), .int (0), .int (0), .ref mp, .ref mt, .int (0), .ref ml, .null, .null, .int (0), .null, .int (0), .null, .int (0), .int (0), .int (0), .int (0), .int (0), .int (0), .int (0), .int (0), .int (0), .int (0), .null, .null])), (mp, .inl (cI, 1000, .inl (fun _ => 0))), (mt, .inl (cI, 1000, .inl (fun _ => 0))), (ml, .inl (cI, 8, .inl (fun _ => 0))), (mc, .inl (cI, 576, .inl (fun _ => 0)))] := hD
  refine va_putF (D := D) (ci := 5) (v := .ref mc) (ty := .array .int) (C := R_M) (T := F_M) (N := 26) hx hb hts wl_M t_M t_M_ok n_M hown hK hP hD hS 0 rfl rfl 8 (by decide) (hts _ wf_M_19) (fun _ h9 => h9) rfl hin rfl (by decide +kernel) rfl rfl (Nat.le_of_ble_eq_true rfl) d_M_init_36 (fun H locs hP hD hS => ?_)
  have hP : va_P D cls [(qm, .inr (5, [.int (0), .int (0), .int (0), .int (0), .ref mp, .ref mt, .int (0), .ref ml, .ref mc, .null, .int (0), .null, .int (0), .null, .int (0), .int (0), .int (0), .int (0), .int (0), .int (0), .int (0), .int (0), .int (0), .int (0), .null, .null])), (mp, .inl (cI, 1000, .inl (fun _ => 0))), (mt, .inl (cI, 1000, .inl (fun _ => 0))), (ml, .inl (cI, 8, .inl (fun _ => 0))), (mc, .inl (cI, 576, .inl (fun _ => 0)))] H := hP
  have hD : va_D A [(qm, .inr (5, [.int (0), .int (0), .int (0), .int (0), .ref mp, .ref mt, .int (0), .ref ml, .ref mc, .null, .int (0), .null, .int (0), .null, .int (0), .int (0), .int (0), .int (0), .int (0), .int (0), .int (0), .int (0), .int (0), .int (0), .null, .null])), (mp, .inl (cI, 1000, .inl (fun _ => 0))), (mt, .inl (cI, 1000, .inl (fun _ => 0))), (ml, .inl (cI, 8, .inl (fun _ => 0))), (mc, .inl (cI, 576, .inl (fun _ => 0)))] := hD
  refine lv_aload_n hx hb d_M_init_39 rfl (lv_at hl 0 rfl) ?_
  refine lv_sipush (v := nI 576) hx hb d_M_init_40 (by decide) ?_
  refine sd_newI (N := 576) hx hb hts hK hP hD hS hA (by omega) (by dsimp only; omega) (by dsimp only; omega) d_M_init_43 (fun mf H hP hD hS => ?_)
  have hP : va_P D cls [(qm, .inr (5, [.int (0), .int (0), .int (0), .int (0), .ref mp, .ref mt, .int (0), .ref ml, .ref mc, .null, .int (0), .null, .int (0), .null, .int (0), .int (0), .int (0), .int (0), .int (0), .int (0), .int (0), .int (0), .int (0), .int (0), .null, .null])), (mp, .inl (cI, 1000, .inl (fun _ => 0))), (mt, .inl (cI, 1000, .inl (fun _ => 0))), (ml, .inl (cI, 8, .inl (fun _ => 0))), (mc, .inl (cI, 576, .inl (fun _ => 0))), (mf, .inl (cI, 576, .inl (fun _ => 0)))] H := hP
  have hD : va_D A [(qm, .inr (5, [.int (0), .int (0), .int (0), .int (0), .ref mp, .ref mt, .int (0), .ref ml, .ref mc, .null, .int (0), .null, .int (0), .null, .int (0), .int (0), .int (0), .int (0), .int (0), .int (0), .int (0), .int (0), .int (0), .int (0), .null, .null])), (mp, .inl (cI, 1000, .inl (fun _ => 0))), (mt, .inl (cI, 1000, .inl (fun _ => 0))), (ml, .inl (cI, 8, .inl (fun _ => 0))), (mc, .inl (cI, 576, .inl (fun _ => 0))), (mf, .inl (cI, 576, .inl (fun _ => 0)))] := hD
  refine va_putF (D := D) (ci := 5) (v := .ref mf) (ty := .array .int) (C := R_M) (T := F_M) (N := 26) hx hb hts wl_M t_M t_M_ok n_M hown hK hP hD hS 0 rfl rfl 9 (by decide) (hts _ wf_M_22) (fun _ h9 => h9) rfl hin rfl (by decide +kernel) rfl rfl (Nat.le_of_ble_eq_true rfl) d_M_init_45 (fun H locs hP hD hS => ?_)
  have hP : va_P D cls [(qm, .inr (5, [.int (0), .int (0), .int (0), .int (0), .ref mp, .ref mt, .int (0), .ref ml, .ref mc, .ref mf, .int (0), .null, .int (0), .null, .int (0), .int (0), .int (0), .int (0), .int (0), .int (0), .int (0), .int (0), .int (0), .int (0), .null, .null])), (mp, .inl (cI, 1000, .inl (fun _ => 0))), (mt, .inl (cI, 1000, .inl (fun _ => 0))), (ml, .inl (cI, 8, .inl (fun _ => 0))), (mc, .inl (cI, 576, .inl (fun _ => 0))), (mf, .inl (cI, 576, .inl (fun _ => 0)))] H := hP
  have hD : va_D A [(qm, .inr (5, [.int (0), .int (0), .int (0), .int (0), .ref mp, .ref mt, .int (0), .ref ml, .ref mc, .ref mf, .int (0), .null, .int (0), .null, .int (0), .int (0), .int (0), .int (0), .int (0), .int (0), .int (0), .int (0), .int (0), .int (0), .null, .null])), (mp, .inl (cI, 1000, .inl (fun _ => 0))), (mt, .inl (cI, 1000, .inl (fun _ => 0))), (ml, .inl (cI, 8, .inl (fun _ => 0))), (mc, .inl (cI, 576, .inl (fun _ => 0))), (mf, .inl (cI, 576, .inl (fun _ => 0)))] := hD
  refine lv_aload_n hx hb d_M_init_48 rfl (lv_at hl 0 rfl) ?_
  refine lv_bipush (v := nI 10) hx hb d_M_init_49 (by decide) ?_
  refine sd_newZ (N := 10) hx hb hts hK hP hD hS hA (by omega) (by dsimp only; omega) (by dsimp only; omega) d_M_init_51 (fun me H hP hD hS => ?_)
  have hP : va_P D cls [(qm, .inr (5, [.int (0), .int (0), .int (0), .int (0), .ref mp, .ref mt, .int (0), .ref ml, .ref mc, .ref mf, .int (0), .null, .int (0), .null, .int (0), .int (0), .int (0), .int (0), .int (0), .int (0), .int (0), .int (0), .int (0), .int (0), .null, .null])), (mp, .inl (cI, 1000, .inl (fun _ => 0))), (mt, .inl (cI, 1000, .inl (fun _ => 0))), (ml, .inl (cI, 8, .inl (fun _ => 0))), (mc, .inl (cI, 576, .inl (fun _ => 0))), (mf, .inl (cI, 576, .inl (fun _ => 0))), (me, .inl (cZ, 10, .inl (fun _ => 0)))] H := hP
  have hD : va_D A [(qm, .inr (5, [.int (0), .int (0), .int (0), .int (0), .ref mp, .ref mt, .int (0), .ref ml, .ref mc, .ref mf, .int (0), .null, .int (0), .null, .int (0), .int (0), .int (0), .int (0), .int (0), .int (0), .int (0), .int (0), .int (0), .int (0), .null, .null])), (mp, .inl (cI, 1000, .inl (fun _ => 0))), (mt, .inl (cI, 1000, .inl (fun _ => 0))), (ml, .inl (cI, 8, .inl (fun _ => 0))), (mc, .inl (cI, 576, .inl (fun _ => 0))), (mf, .inl (cI, 576, .inl (fun _ => 0))), (me, .inl (cZ, 10, .inl (fun _ => 0)))] := hD
  refine va_putF (D := D) (ci := 5) (v := .ref me) (ty := .array .boolean) (C := R_M) (T := F_M) (N := 26) hx hb hts wl_M t_M t_M_ok n_M hown hK hP hD hS 0 rfl rfl 11 (by decide) (hts _ wf_M_25) (fun _ h9 => h9) rfl hin rfl (by decide +kernel) rfl rfl (Nat.le_of_ble_eq_true rfl) d_M_init_53 (fun H locs hP hD hS => ?_)
  have hP : va_P D cls [(qm, .inr (5, [.int (0), .int (0), .int (0), .int (0), .ref mp, .ref mt, .int (0), .ref ml, .ref mc, .ref mf, .int (0), .ref me, .int (0), .null, .int (0), .int (0), .int (0), .int (0), .int (0), .int (0), .int (0), .int (0), .int (0), .int (0), .null, .null])), (mp, .inl (cI, 1000, .inl (fun _ => 0))), (mt, .inl (cI, 1000, .inl (fun _ => 0))), (ml, .inl (cI, 8, .inl (fun _ => 0))), (mc, .inl (cI, 576, .inl (fun _ => 0))), (mf, .inl (cI, 576, .inl (fun _ => 0))), (me, .inl (cZ, 10, .inl (fun _ => 0)))] H := hP
  have hD : va_D A [(qm, .inr (5, [.int (0), .int (0), .int (0), .int (0), .ref mp, .ref mt, .int (0), .ref ml, .ref mc, .ref mf, .int (0), .ref me, .int (0), .null, .int (0), .int (0), .int (0), .int (0), .int (0), .int (0), .int (0), .int (0), .int (0), .int (0), .null, .null])), (mp, .inl (cI, 1000, .inl (fun _ => 0))), (mt, .inl (cI, 1000, .inl (fun _ => 0))), (ml, .inl (cI, 8, .inl (fun _ => 0))), (mc, .inl (cI, 576, .inl (fun _ => 0))), (mf, .inl (cI, 576, .inl (fun _ => 0))), (me, .inl (cZ, 10, .inl (fun _ => 0)))] := hD
  refine lv_aload_n hx hb d_M_init_56 rfl (lv_at hl 0 rfl) ?_
  refine lv_sipush (v := nI 192) hx hb d_M_init_57 (by decide) ?_
  refine sd_newI (N := 192) hx hb hts hK hP hD hS hA (by omega) (by dsimp only; omega) (by dsimp only; omega) d_M_init_60 (fun mg H hP hD hS => ?_)
  have hP : va_P D cls [(qm, .inr (5, [.int (0), .int (0), .int (0), .int (0), .ref mp, .ref mt, .int (0), .ref ml, .ref mc, .ref mf, .int (0), .ref me, .int (0), .null, .int (0), .int (0), .int (0), .int (0), .int (0), .int (0), .int (0), .int (0), .int (0), .int (0), .null, .null])), (mp, .inl (cI, 1000, .inl (fun _ => 0))), (mt, .inl (cI, 1000, .inl (fun _ => 0))), (ml, .inl (cI, 8, .inl (fun _ => 0))), (mc, .inl (cI, 576, .inl (fun _ => 0))), (mf, .inl (cI, 576, .inl (fun _ => 0))), (me, .inl (cZ, 10, .inl (fun _ => 0))), (mg, .inl (cI, 192, .inl (fun _ => 0)))] H := hP
  have hD : va_D A [(qm, .inr (5, [.int (0), .int (0), .int (0), .int (0), .ref mp, .ref mt, .int (0), .ref ml, .ref mc, .ref mf, .int (0), .ref me, .int (0), .null, .int (0), .int (0), .int (0), .int (0), .int (0), .int (0), .int (0), .int (0), .int (0), .int (0), .null, .null])), (mp, .inl (cI, 1000, .inl (fun _ => 0))), (mt, .inl (cI, 1000, .inl (fun _ => 0))), (ml, .inl (cI, 8, .inl (fun _ => 0))), (mc, .inl (cI, 576, .inl (fun _ => 0))), (mf, .inl (cI, 576, .inl (fun _ => 0))), (me, .inl (cZ, 10, .inl (fun _ => 0))), (mg, .inl (cI, 192, .inl (fun _ => 0)))] := hD
  refine va_putF (D := D) (ci := 5) (v := .ref mg) (ty := .array .int) (C := R_M) (T := F_M) (N := 26) hx hb hts wl_M t_M t_M_ok n_M hown hK hP hD hS 0 rfl rfl 13 (by decide) (hts _ wf_M_29) (fun _ h9 => h9) rfl hin rfl (by decide +kernel) rfl rfl (Nat.le_of_ble_eq_true rfl) d_M_init_62 (fun H locs hP hD hS => ?_)
  have hP : va_P D cls [(qm, .inr (5, [.int (0), .int (0), .int (0), .int (0), .ref mp, .ref mt, .int (0), .ref ml, .ref mc, .ref mf, .int (0), .ref me, .int (0), .ref mg, .int (0), .int (0), .int (0), .int (0), .int (0), .int (0), .int (0), .int (0), .int (0), .int (0), .null, .null])), (mp, .inl (cI, 1000, .inl (fun _ => 0))), (mt, .inl (cI, 1000, .inl (fun _ => 0))), (ml, .inl (cI, 8, .inl (fun _ => 0))), (mc, .inl (cI, 576, .inl (fun _ => 0))), (mf, .inl (cI, 576, .inl (fun _ => 0))), (me, .inl (cZ, 10, .inl (fun _ => 0))), (mg, .inl (cI, 192, .inl (fun _ => 0)))] H := hP
  have hD : va_D A [(qm, .inr (5, [.int (0), .int (0), .int (0), .int (0), .ref mp, .ref mt, .int (0), .ref ml, .ref mc, .ref mf, .int (0), .ref me, .int (0), .ref mg, .int (0), .int (0), .int (0), .int (0), .int (0), .int (0), .int (0), .int (0), .int (0), .int (0), .null, .null])), (mp, .inl (cI, 1000, .inl (fun _ => 0))), (mt, .inl (cI, 1000, .inl (fun _ => 0))), (ml, .inl (cI, 8, .inl (fun _ => 0))), (mc, .inl (cI, 576, .inl (fun _ => 0))), (mf, .inl (cI, 576, .inl (fun _ => 0))), (me, .inl (cZ, 10, .inl (fun _ => 0))), (mg, .inl (cI, 192, .inl (fun _ => 0)))] := hD
  refine lv_aload_n hx hb d_M_init_65 rfl (lv_at hl 0 rfl) ?_
  refine lv_iconst (v := (-1)) hx hb d_M_init_66 (by decide) ?_
  refine va_put (D := D) (ci := 5) (v := .int ((-1))) (ty := .int) (C := R_M) (T := F_M) (N := 26) hx hb hts wl_M t_M t_M_ok n_M hown hK hP hD hS 0 rfl rfl 14 (by decide) (hts _ wf_M_32) (fun _ h9 => h9) rfl (by decide +kernel) rfl rfl (Nat.le_of_ble_eq_true rfl) d_M_init_67 (fun H locs hP hD hS => ?_)
  have hP : va_P D cls [(qm, .inr (5, [.int (0), .int (0), .int (0), .int (0), .ref mp, .ref mt, .int (0), .ref ml, .ref mc, .ref mf, .int (0), .ref me, .int (0), .ref mg, .int ((-1)), .int (0), .int (0), .int (0), .int (0), .int (0), .int (0), .int (0), .int (0), .int (0), .null, .null])), (mp, .inl (cI, 1000, .inl (fun _ => 0))), (mt, .inl (cI, 1000, .inl (fun _ => 0))), (ml, .inl (cI, 8, .inl (fun _ => 0))), (mc, .inl (cI, 576, .inl (fun _ => 0))), (mf, .inl (cI, 576, .inl (fun _ => 0))), (me, .inl (cZ, 10, .inl (fun _ => 0))), (mg, .inl (cI, 192, .inl (fun _ => 0)))] H := hP
  have hD : va_D A [(qm, .inr (5, [.int (0), .int (0), .int (0), .int (0), .ref mp, .ref mt, .int (0), .ref ml, .ref mc, .ref mf, .int (0), .ref me, .int (0), .ref mg, .int ((-1)), .int (0), .int (0), .int (0), .int (0), .int (0), .int (0), .int (0), .int (0), .int (0), .null, .null])), (mp, .inl (cI, 1000, .inl (fun _ => 0))), (mt, .inl (cI, 1000, .inl (fun _ => 0))), (ml, .inl (cI, 8, .inl (fun _ => 0))), (mc, .inl (cI, 576, .inl (fun _ => 0))), (mf, .inl (cI, 576, .inl (fun _ => 0))), (me, .inl (cZ, 10, .inl (fun _ => 0))), (mg, .inl (cI, 192, .inl (fun _ => 0)))] := hD
  refine lv_aload_n hx hb d_M_init_70 rfl (lv_at hl 0 rfl) ?_
  refine lv_iconst (v := (-1)) hx hb d_M_init_71 (by decide) ?_
  refine va_put (D := D) (ci := 5) (v := .int ((-1))) (ty := .int) (C := R_M) (T := F_M) (N := 26) hx hb hts wl_M t_M t_M_ok n_M hown hK hP hD hS 0 rfl rfl 16 (by decide) (hts _ wf_M_36) (fun _ h9 => h9) rfl (by decide +kernel) rfl rfl (Nat.le_of_ble_eq_true rfl) d_M_init_72 (fun H locs hP hD hS => ?_)
  have hP : va_P D cls [(qm, .inr (5, [.int (0), .int (0), .int (0), .int (0), .ref mp, .ref mt, .int (0), .ref ml, .ref mc, .ref mf, .int (0), .ref me, .int (0), .ref mg, .int ((-1)), .int (0), .int ((-1)), .int (0), .int (0), .int (0), .int (0), .int (0), .int (0), .int (0), .null, .null])), (mp, .inl (cI, 1000, .inl (fun _ => 0))), (mt, .inl (cI, 1000, .inl (fun _ => 0))), (ml, .inl (cI, 8, .inl (fun _ => 0))), (mc, .inl (cI, 576, .inl (fun _ => 0))), (mf, .inl (cI, 576, .inl (fun _ => 0))), (me, .inl (cZ, 10, .inl (fun _ => 0))), (mg, .inl (cI, 192, .inl (fun _ => 0)))] H := hP
  have hD : va_D A [(qm, .inr (5, [.int (0), .int (0), .int (0), .int (0), .ref mp, .ref mt, .int (0), .ref ml, .ref mc, .ref mf, .int (0), .ref me, .int (0), .ref mg, .int ((-1)), .int (0), .int ((-1)), .int (0), .int (0), .int (0), .int (0), .int (0), .int (0), .int (0), .null, .null])), (mp, .inl (cI, 1000, .inl (fun _ => 0))), (mt, .inl (cI, 1000, .inl (fun _ => 0))), (ml, .inl (cI, 8, .inl (fun _ => 0))), (mc, .inl (cI, 576, .inl (fun _ => 0))), (mf, .inl (cI, 576, .inl (fun _ => 0))), (me, .inl (cZ, 10, .inl (fun _ => 0))), (mg, .inl (cI, 192, .inl (fun _ => 0)))] := hD
  refine lv_aload_n hx hb d_M_init_75 rfl (lv_at hl 0 rfl) ?_
  refine lv_bipush (v := nI 10) hx hb d_M_init_76 (by decide) ?_
  refine sd_newI (N := 10) hx hb hts hK hP hD hS hA (by omega) (by dsimp only; omega) (by dsimp only; omega) d_M_init_78 (fun mh H hP hD hS => ?_)
  have hP : va_P D cls [(qm, .inr (5, [.int (0), .int (0), .int (0), .int (0), .ref mp, .ref mt, .int (0), .ref ml, .ref mc, .ref mf, .int (0), .ref me, .int (0), .ref mg, .int ((-1)), .int (0), .int ((-1)), .int (0), .int (0), .int (0), .int (0), .int (0), .int (0), .int (0), .null, .null])), (mp, .inl (cI, 1000, .inl (fun _ => 0))), (mt, .inl (cI, 1000, .inl (fun _ => 0))), (ml, .inl (cI, 8, .inl (fun _ => 0))), (mc, .inl (cI, 576, .inl (fun _ => 0))), (mf, .inl (cI, 576, .inl (fun _ => 0))), (me, .inl (cZ, 10, .inl (fun _ => 0))), (mg, .inl (cI, 192, .inl (fun _ => 0))), (mh, .inl (cI, 10, .inl (fun _ => 0)))] H := hP
  have hD : va_D A [(qm, .inr (5, [.int (0), .int (0), .int (0), .int (0), .ref mp, .ref mt, .int (0), .ref ml, .ref mc, .ref mf, .int (0), .ref me, .int (0), .ref mg, .int ((-1)), .int (0), .int ((-1)), .int (0), .int (0), .int (0), .int (0), .int (0), .int (0), .int (0), .null, .null])), (mp, .inl (cI, 1000, .inl (fun _ => 0))), (mt, .inl (cI, 1000, .inl (fun _ => 0))), (ml, .inl (cI, 8, .inl (fun _ => 0))), (mc, .inl (cI, 576, .inl (fun _ => 0))), (mf, .inl (cI, 576, .inl (fun _ => 0))), (me, .inl (cZ, 10, .inl (fun _ => 0))), (mg, .inl (cI, 192, .inl (fun _ => 0))), (mh, .inl (cI, 10, .inl (fun _ => 0)))] := hD
  refine va_putF (D := D) (ci := 5) (v := .ref mh) (ty := .array .int) (C := R_M) (T := F_M) (N := 26) hx hb hts wl_M t_M t_M_ok n_M hown hK hP hD hS 0 rfl rfl 24 (by decide) (hts _ wf_M_39) (fun _ h9 => h9) rfl hin rfl (by decide +kernel) rfl rfl (Nat.le_of_ble_eq_true rfl) d_M_init_80 (fun H locs hP hD hS => ?_)
  have hP : va_P D cls [(qm, .inr (5, [.int (0), .int (0), .int (0), .int (0), .ref mp, .ref mt, .int (0), .ref ml, .ref mc, .ref mf, .int (0), .ref me, .int (0), .ref mg, .int ((-1)), .int (0), .int ((-1)), .int (0), .int (0), .int (0), .int (0), .int (0), .int (0), .int (0), .ref mh, .null])), (mp, .inl (cI, 1000, .inl (fun _ => 0))), (mt, .inl (cI, 1000, .inl (fun _ => 0))), (ml, .inl (cI, 8, .inl (fun _ => 0))), (mc, .inl (cI, 576, .inl (fun _ => 0))), (mf, .inl (cI, 576, .inl (fun _ => 0))), (me, .inl (cZ, 10, .inl (fun _ => 0))), (mg, .inl (cI, 192, .inl (fun _ => 0))), (mh, .inl (cI, 10, .inl (fun _ => 0)))] H := hP
  have hD : va_D A [(qm, .inr (5, [.int (0), .int (0), .int (0), .int (0), .ref mp, .ref mt, .int (0), .ref ml, .ref mc, .ref mf, .int (0), .ref me, .int (0), .ref mg, .int ((-1)), .int (0), .int ((-1)), .int (0), .int (0), .int (0), .int (0), .int (0), .int (0), .int (0), .ref mh, .null])), (mp, .inl (cI, 1000, .inl (fun _ => 0))), (mt, .inl (cI, 1000, .inl (fun _ => 0))), (ml, .inl (cI, 8, .inl (fun _ => 0))), (mc, .inl (cI, 576, .inl (fun _ => 0))), (mf, .inl (cI, 576, .inl (fun _ => 0))), (me, .inl (cZ, 10, .inl (fun _ => 0))), (mg, .inl (cI, 192, .inl (fun _ => 0))), (mh, .inl (cI, 10, .inl (fun _ => 0)))] := hD
  refine lv_aload_n hx hb d_M_init_83 rfl (lv_at hl 0 rfl) ?_
  refine lv_bipush (v := nI 10) hx hb d_M_init_84 (by decide) ?_
  refine sd_newI (N := 10) hx hb hts hK hP hD hS hA (by omega) (by dsimp only; omega) (by dsimp only; omega) d_M_init_86 (fun mu H hP hD hS => ?_)
  have hP : va_P D cls [(qm, .inr (5, [.int (0), .int (0), .int (0), .int (0), .ref mp, .ref mt, .int (0), .ref ml, .ref mc, .ref mf, .int (0), .ref me, .int (0), .ref mg, .int ((-1)), .int (0), .int ((-1)), .int (0), .int (0), .int (0), .int (0), .int (0), .int (0), .int (0), .ref mh, .null])), (mp, .inl (cI, 1000, .inl (fun _ => 0))), (mt, .inl (cI, 1000, .inl (fun _ => 0))), (ml, .inl (cI, 8, .inl (fun _ => 0))), (mc, .inl (cI, 576, .inl (fun _ => 0))), (mf, .inl (cI, 576, .inl (fun _ => 0))), (me, .inl (cZ, 10, .inl (fun _ => 0))), (mg, .inl (cI, 192, .inl (fun _ => 0))), (mh, .inl (cI, 10, .inl (fun _ => 0))), (mu, .inl (cI, 10, .inl (fun _ => 0)))] H := hP
  have hD : va_D A [(qm, .inr (5, [.int (0), .int (0), .int (0), .int (0), .ref mp, .ref mt, .int (0), .ref ml, .ref mc, .ref mf, .int (0), .ref me, .int (0), .ref mg, .int ((-1)), .int (0), .int ((-1)), .int (0), .int (0), .int (0), .int (0), .int (0), .int (0), .int (0), .ref mh, .null])), (mp, .inl (cI, 1000, .inl (fun _ => 0))), (mt, .inl (cI, 1000, .inl (fun _ => 0))), (ml, .inl (cI, 8, .inl (fun _ => 0))), (mc, .inl (cI, 576, .inl (fun _ => 0))), (mf, .inl (cI, 576, .inl (fun _ => 0))), (me, .inl (cZ, 10, .inl (fun _ => 0))), (mg, .inl (cI, 192, .inl (fun _ => 0))), (mh, .inl (cI, 10, .inl (fun _ => 0))), (mu, .inl (cI, 10, .inl (fun _ => 0)))] := hD
  refine va_putF (D := D) (ci := 5) (v := .ref mu) (ty := .array .int) (C := R_M) (T := F_M) (N := 26) hx hb hts wl_M t_M t_M_ok n_M hown hK hP hD hS 0 rfl rfl 25 (by decide) (hts _ wf_M_42) (fun _ h9 => h9) rfl hin rfl (by decide +kernel) rfl rfl (Nat.le_of_ble_eq_true rfl) d_M_init_88 (fun H locs hP hD hS => ?_)
  have hP : va_P D cls (mW cI cZ qm mp mt ml mc mf me mg mh mu (0) (0) (0) (0) (0) (0) (0) ((-1)) (0) ((-1)) (0) (0) (0) (0) (0) (0) (0) (1000) (fun _ => 0) (1000) (fun _ => 0) (8) (fun _ => 0) (576) (fun _ => 0) (576) (fun _ => 0) (10) (fun _ => 0) (192) (fun _ => 0) (10) (fun _ => 0) (10) (fun _ => 0)) H := hP
  have hD : va_D A (mW cI cZ qm mp mt ml mc mf me mg mh mu (0) (0) (0) (0) (0) (0) (0) ((-1)) (0) ((-1)) (0) (0) (0) (0) (0) (0) (0) (1000) (fun _ => 0) (1000) (fun _ => 0) (8) (fun _ => 0) (576) (fun _ => 0) (576) (fun _ => 0) (10) (fun _ => 0) (192) (fun _ => 0) (10) (fun _ => 0) (10) (fun _ => 0)) := hD
  have join113 : ∀ (ls : Array Slot) (H : Heap) (locs : List Loc), lv_has ls 3 [(0, .ref qm), (1, .int (a)), (2, .int (b))] → va_P D cls (mW cI cZ qm mp mt ml mc mf me mg mh mu (0) (0) (0) (0) (0) (0) (0) ((-1)) (0) ((-1)) (0) (0) (0) (0) (0) (0) (0) (1000) (fun _ => 0) (1000) (fun _ => 0) (8) (fun _ => 0) (576) (fun _ => 0) (576) (fun _ => 0) (10) (fun _ => 0) (192) (fun _ => 0) (10) (fun _ => 0) (10) (fun _ => 0)) H → va_D A (mW cI cZ qm mp mt ml mc mf me mg mh mu (0) (0) (0) (0) (0) (0) (0) ((-1)) (0) ((-1)) (0) (0) (0) (0) (0) (0) (0) (1000) (fun _ => 0) (1000) (fun _ => 0) (8) (fun _ => 0) (576) (fun _ => 0) (576) (fun _ => 0) (10) (fun _ => 0) (192) (fun _ => 0) (10) (fun _ => 0) (10) (fun _ => 0)) → va_S A s.heap H locs → W p l e ({ frames := 2, cells := 9, slots := 3400, locals := 40 }) s m ([.ref qm, .int (a), .int (b)] : List Value).toArray below meth c H locs 9 3382 (MQ below (nd_q D (fun w9 => ∃ (mp : Nat) (mt : Nat) (ml : Nat) (mc : Nat) (mf : Nat) (me : Nat) (mg : Nat) (mh : Nat) (mu : Nat), w9 = (mW cI cZ qm mp mt ml mc mf me mg mh mu (0) (kk_f a b) (nn_f b) (0) (0) (0) (0) ((-1)) (0) ((-1)) (0) (0) (0) (0) (0) (0) (0) (1000) (fun _ => 0) (1000) (fun _ => 0) (8) (fun _ => 0) (576) (fun _ => 0) (576) (fun _ => 0) (10) (fun _ => 0) (192) (fun _ => 0) (10) (fun _ => 0) (10) (fun _ => 0))) A) ([.ref qm, .int (a), .int (b)] : List Value).toArray s 9 3400 A) (F0 m 113 ls [.int (nn_f b), .ref qm]) := by
    intro ls H locs hl hP hD hS
    refine va_putF (D := D) (ci := 5) (v := .int (nn_f b)) (ty := .int) (C := R_M) (T := F_M) (N := 26) hx hb hts wl_M t_M t_M_ok n_M hown hK hP hD hS 0 rfl rfl 2 (by decide) (hts _ wf_M_45) (fun _ h9 => h9) rfl hin rfl (by decide +kernel) rfl rfl (Nat.le_of_ble_eq_true rfl) d_M_init_113 (fun H locs hP hD hS => ?_)
    have hP : va_P D cls (mW cI cZ qm mp mt ml mc mf me mg mh mu (0) (0) (nn_f b) (0) (0) (0) (0) ((-1)) (0) ((-1)) (0) (0) (0) (0) (0) (0) (0) (1000) (fun _ => 0) (1000) (fun _ => 0) (8) (fun _ => 0) (576) (fun _ => 0) (576) (fun _ => 0) (10) (fun _ => 0) (192) (fun _ => 0) (10) (fun _ => 0) (10) (fun _ => 0)) H := hP
    have hD : va_D A (mW cI cZ qm mp mt ml mc mf me mg mh mu (0) (0) (nn_f b) (0) (0) (0) (0) ((-1)) (0) ((-1)) (0) (0) (0) (0) (0) (0) (0) (1000) (fun _ => 0) (1000) (fun _ => 0) (8) (fun _ => 0) (576) (fun _ => 0) (576) (fun _ => 0) (10) (fun _ => 0) (192) (fun _ => 0) (10) (fun _ => 0) (10) (fun _ => 0)) := hD
    have join142 : ∀ (ls : Array Slot) (H : Heap) (locs : List Loc), lv_has ls 3 [(0, .ref qm), (1, .int (a)), (2, .int (b))] → va_P D cls (mW cI cZ qm mp mt ml mc mf me mg mh mu (0) (0) (nn_f b) (0) (0) (0) (0) ((-1)) (0) ((-1)) (0) (0) (0) (0) (0) (0) (0) (1000) (fun _ => 0) (1000) (fun _ => 0) (8) (fun _ => 0) (576) (fun _ => 0) (576) (fun _ => 0) (10) (fun _ => 0) (192) (fun _ => 0) (10) (fun _ => 0) (10) (fun _ => 0)) H → va_D A (mW cI cZ qm mp mt ml mc mf me mg mh mu (0) (0) (nn_f b) (0) (0) (0) (0) ((-1)) (0) ((-1)) (0) (0) (0) (0) (0) (0) (0) (1000) (fun _ => 0) (1000) (fun _ => 0) (8) (fun _ => 0) (576) (fun _ => 0) (576) (fun _ => 0) (10) (fun _ => 0) (192) (fun _ => 0) (10) (fun _ => 0) (10) (fun _ => 0)) → va_S A s.heap H locs → W p l e ({ frames := 2, cells := 9, slots := 3400, locals := 40 }) s m ([.ref qm, .int (a), .int (b)] : List Value).toArray below meth c H locs 9 3382 (MQ below (nd_q D (fun w9 => ∃ (mp : Nat) (mt : Nat) (ml : Nat) (mc : Nat) (mf : Nat) (me : Nat) (mg : Nat) (mh : Nat) (mu : Nat), w9 = (mW cI cZ qm mp mt ml mc mf me mg mh mu (0) (kk_f a b) (nn_f b) (0) (0) (0) (0) ((-1)) (0) ((-1)) (0) (0) (0) (0) (0) (0) (0) (1000) (fun _ => 0) (1000) (fun _ => 0) (8) (fun _ => 0) (576) (fun _ => 0) (576) (fun _ => 0) (10) (fun _ => 0) (192) (fun _ => 0) (10) (fun _ => 0) (10) (fun _ => 0))) A) ([.ref qm, .int (a), .int (b)] : List Value).toArray s 9 3400 A) (F0 m 142 ls [.int (kk_f a b), .ref qm]) := by
      intro ls H locs hl hP hD hS
      refine va_putF (D := D) (ci := 5) (v := .int (kk_f a b)) (ty := .int) (C := R_M) (T := F_M) (N := 26) hx hb hts wl_M t_M t_M_ok n_M hown hK hP hD hS 0 rfl rfl 1 (by decide) (hts _ wf_M_48) (fun _ h9 => h9) rfl hin rfl (by decide +kernel) rfl rfl (Nat.le_of_ble_eq_true rfl) d_M_init_142 (fun H locs hP hD hS => ?_)
      have hP : va_P D cls (mW cI cZ qm mp mt ml mc mf me mg mh mu (0) (kk_f a b) (nn_f b) (0) (0) (0) (0) ((-1)) (0) ((-1)) (0) (0) (0) (0) (0) (0) (0) (1000) (fun _ => 0) (1000) (fun _ => 0) (8) (fun _ => 0) (576) (fun _ => 0) (576) (fun _ => 0) (10) (fun _ => 0) (192) (fun _ => 0) (10) (fun _ => 0) (10) (fun _ => 0)) H := hP
      have hD : va_D A (mW cI cZ qm mp mt ml mc mf me mg mh mu (0) (kk_f a b) (nn_f b) (0) (0) (0) (0) ((-1)) (0) ((-1)) (0) (0) (0) (0) (0) (0) (0) (1000) (fun _ => 0) (1000) (fun _ => 0) (8) (fun _ => 0) (576) (fun _ => 0) (576) (fun _ => 0) (10) (fun _ => 0) (192) (fun _ => 0) (10) (fun _ => 0) (10) (fun _ => 0)) := hD
      exact sd_nret hx hb hr hlk hP hD hS (by first | omega | (dsimp only; omega)) (by first | omega | (dsimp only; omega)) ⟨mp, mt, ml, mc, mf, me, mg, mh, mu, rfl⟩ d_M_init_145
    refine lv_aload_n hx hb d_M_init_116 rfl (lv_at hl 0 rfl) ?_
    refine lv_iload_n hx hb d_M_init_117 rfl (lv_at hl 1 rfl) ?_
    refine lv_iconst (v := 2) hx hb d_M_init_118 (by decide) ?_
    refine lv_icmp_ge (tgt := 126) hx hb d_M_init_119 rfl (fun hc119 => ?_) (fun hc119 => ?_)
    · skip
      refine lv_iload_n hx hb d_M_init_126 rfl (lv_at hl 1 rfl) ?_
      refine lv_aload_n hx hb d_M_init_127 rfl (lv_at hl 0 rfl) ?_
      refine va_get (D := D) (ci := 5) (v := .int (nn_f b)) (C := R_M) (T := F_M) (N := 26) hx hb hts wl_M hown hK hP 0 rfl rfl 2 (by decide) (hts _ wf_M_45) (fun _ h9 => h9) rfl d_M_init_128 ?_
      refine lv_icmp_le (tgt := 141) hx hb d_M_init_131 rfl (fun hc131 => ?_) (fun hc131 => ?_)
      · skip
        refine lv_iload_n hx hb d_M_init_141 rfl (lv_at hl 1 rfl) ?_
        refine sd_top (y := kk_f a b) (kk_3 hc119 hc131) ?_
        have hl := lv_sub hl (l' := [(0, .ref qm), (1, .int (a)), (2, .int (b))]) [0, 1, 2] rfl
        refine W.widen (k := 9) (n := 3382) (by first | omega | (dsimp only; omega)) (by first | omega | (dsimp only; omega)) ?_
        exact join142  ls _ _  hl hP hD hS
      · skip
        refine lv_aload_n hx hb d_M_init_134 rfl (lv_at hl 0 rfl) ?_
        refine va_get (D := D) (ci := 5) (v := .int (nn_f b)) (C := R_M) (T := F_M) (N := 26) hx hb hts wl_M hown hK hP 0 rfl rfl 2 (by decide) (hts _ wf_M_45) (fun _ h9 => h9) rfl d_M_init_135 ?_
        refine sd_top (y := kk_f a b) (kk_2 hc119 hc131) ?_
        refine lv_goto (tgt := 142) hx hb d_M_init_138 rfl ?_
        have hl := lv_sub hl (l' := [(0, .ref qm), (1, .int (a)), (2, .int (b))]) [0, 1, 2] rfl
        refine W.widen (k := 9) (n := 3382) (by first | omega | (dsimp only; omega)) (by first | omega | (dsimp only; omega)) ?_
        exact join142  ls _ _  hl hP hD hS
    · skip
      refine lv_iconst (v := 2) hx hb d_M_init_122 (by decide) ?_
      refine sd_top (y := kk_f a b) ((if_neg hc119).symm) ?_
      refine lv_goto (tgt := 142) hx hb d_M_init_123 rfl ?_
      have hl := lv_sub hl (l' := [(0, .ref qm), (1, .int (a)), (2, .int (b))]) [0, 1, 2] rfl
      refine W.widen (k := 9) (n := 3382) (by first | omega | (dsimp only; omega)) (by first | omega | (dsimp only; omega)) ?_
      exact join142  ls _ _  hl hP hD hS
  refine lv_aload_n hx hb d_M_init_91 rfl (lv_at hl 0 rfl) ?_
  refine lv_iload_n hx hb d_M_init_92 rfl (lv_at hl 2 rfl) ?_
  refine lv_iconst (v := 2) hx hb d_M_init_93 (by decide) ?_
  refine lv_icmp_ge (tgt := 101) hx hb d_M_init_94 rfl (fun hc94 => ?_) (fun hc94 => ?_)
  · skip
    refine lv_iload_n hx hb d_M_init_101 rfl (lv_at hl 2 rfl) ?_
    refine lv_bipush (v := 9) hx hb d_M_init_102 (by decide) ?_
    refine lv_icmp_le (tgt := 112) hx hb d_M_init_104 rfl (fun hc104 => ?_) (fun hc104 => ?_)
    · skip
      refine lv_iload_n hx hb d_M_init_112 rfl (lv_at hl 2 rfl) ?_
      refine sd_top (y := nn_f b) (nn_3 hc94 hc104) ?_
      have hl := lv_sub hl (l' := [(0, .ref qm), (1, .int (a)), (2, .int (b))]) [0, 1, 2] rfl
      refine W.widen (k := 9) (n := 3382) (by first | omega | (dsimp only; omega)) (by first | omega | (dsimp only; omega)) ?_
      exact join113  ls _ _  hl hP hD hS
    · skip
      refine lv_bipush (v := 9) hx hb d_M_init_107 (by decide) ?_
      refine sd_top (y := nn_f b) (nn_2 hc94 hc104) ?_
      refine lv_goto (tgt := 113) hx hb d_M_init_109 rfl ?_
      have hl := lv_sub hl (l' := [(0, .ref qm), (1, .int (a)), (2, .int (b))]) [0, 1, 2] rfl
      refine W.widen (k := 9) (n := 3382) (by first | omega | (dsimp only; omega)) (by first | omega | (dsimp only; omega)) ?_
      exact join113  ls _ _  hl hP hD hS
  · skip
    refine lv_iconst (v := 2) hx hb d_M_init_97 (by decide) ?_
    refine sd_top (y := nn_f b) ((if_neg hc94).symm) ?_
    refine lv_goto (tgt := 113) hx hb d_M_init_98 rfl ?_
    have hl := lv_sub hl (l' := [(0, .ref qm), (1, .int (a)), (2, .int (b))]) [0, 1, 2] rfl
    refine W.widen (k := 9) (n := 3382) (by first | omega | (dsimp only; omega)) (by first | omega | (dsimp only; omega)) ?_
    exact join113  ls _ _  hl hP hD hS
