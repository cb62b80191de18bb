theorem d_L_feed_0 : decode b_L_feed 0 = .ok (.aload 4, 2) := by decide +kernel
theorem d_L_feed_2 : decode b_L_feed 2 = .ok (.iconst 0, 1) := by decide +kernel
theorem d_L_feed_3 : decode b_L_feed 3 = .ok (.aload_n 0, 1) := by decide +kernel
theorem d_L_feed_4 : decode b_L_feed 4 = .ok (.lload_n 1, 1) := by decide +kernel
theorem d_L_feed_5 : decode b_L_feed 5 = .ok (.iload_n 3, 1) := by decide +kernel
theorem d_L_feed_6 : decode b_L_feed 6 = .ok (.invokevirtual 7, 3) := by decide +kernel
theorem d_L_feed_9 : decode b_L_feed 9 = .ok (.i2l, 1) := by decide +kernel
theorem d_L_feed_10 : decode b_L_feed 10 = .ok (.lastore, 1) := by decide +kernel
theorem d_L_feed_11 : decode b_L_feed 11 = .ok (.goto 11, 3) := by decide +kernel
theorem d_L_feed_14 : decode b_L_feed 14 = .ok (.astore 5, 2) := by decide +kernel
theorem d_L_feed_16 : decode b_L_feed 16 = .ok (.iconst 1, 1) := by decide +kernel
theorem d_L_feed_17 : decode b_L_feed 17 = .ok (.ireturn, 1) := by decide +kernel
theorem d_L_feed_18 : decode b_L_feed 18 = .ok (.astore 5, 2) := by decide +kernel
theorem d_L_feed_20 : decode b_L_feed 20 = .ok (.iconst 2, 1) := by decide +kernel
theorem d_L_feed_21 : decode b_L_feed 21 = .ok (.ireturn, 1) := by decide +kernel
theorem d_L_feed_22 : decode b_L_feed 22 = .ok (.iconst 0, 1) := by decide +kernel
theorem d_L_feed_23 : decode b_L_feed 23 = .ok (.ireturn, 1) := by decide +kernel
theorem d_L_store_0 : decode b_L_store 0 = .ok (.aload 5, 2) := by decide +kernel
theorem d_L_store_2 : decode b_L_store 2 = .ok (.iconst 0, 1) := by decide +kernel
theorem d_L_store_3 : decode b_L_store 3 = .ok (.aload_n 0, 1) := by decide +kernel
theorem d_L_store_4 : decode b_L_store 4 = .ok (.iload_n 1, 1) := by decide +kernel
theorem d_L_store_5 : decode b_L_store 5 = .ok (.lload_n 2, 1) := by decide +kernel
theorem d_L_store_6 : decode b_L_store 6 = .ok (.iload 4, 2) := by decide +kernel
theorem d_L_store_8 : decode b_L_store 8 = .ok (.invokevirtual 17, 3) := by decide +kernel
theorem d_L_store_11 : decode b_L_store 11 = .ok (.i2l, 1) := by decide +kernel
theorem d_L_store_12 : decode b_L_store 12 = .ok (.lastore, 1) := by decide +kernel
theorem d_L_store_13 : decode b_L_store 13 = .ok (.goto 15, 3) := by decide +kernel
theorem d_L_store_16 : decode b_L_store 16 = .ok (.astore 6, 2) := by decide +kernel
theorem d_L_store_18 : decode b_L_store 18 = .ok (.iconst 1, 1) := by decide +kernel
theorem d_L_store_19 : decode b_L_store 19 = .ok (.ireturn, 1) := by decide +kernel
theorem d_L_store_20 : decode b_L_store 20 = .ok (.astore 6, 2) := by decide +kernel
theorem d_L_store_22 : decode b_L_store 22 = .ok (.iconst 2, 1) := by decide +kernel
theorem d_L_store_23 : decode b_L_store 23 = .ok (.ireturn, 1) := by decide +kernel
theorem d_L_store_24 : decode b_L_store 24 = .ok (.astore 6, 2) := by decide +kernel
theorem d_L_store_26 : decode b_L_store 26 = .ok (.iconst 3, 1) := by decide +kernel
theorem d_L_store_27 : decode b_L_store 27 = .ok (.ireturn, 1) := by decide +kernel
theorem d_L_store_28 : decode b_L_store 28 = .ok (.iconst 0, 1) := by decide +kernel
theorem d_L_store_29 : decode b_L_store 29 = .ok (.ireturn, 1) := by decide +kernel
theorem d_L_refresh_0 : decode b_L_refresh 0 = .ok (.aload_n 1, 1) := by decide +kernel
theorem d_L_refresh_1 : decode b_L_refresh 1 = .ok (.iconst 0, 1) := by decide +kernel
theorem d_L_refresh_2 : decode b_L_refresh 2 = .ok (.aload_n 0, 1) := by decide +kernel
theorem d_L_refresh_3 : decode b_L_refresh 3 = .ok (.invokevirtual 23, 3) := by decide +kernel
theorem d_L_refresh_6 : decode b_L_refresh 6 = .ok (.i2l, 1) := by decide +kernel
theorem d_L_refresh_7 : decode b_L_refresh 7 = .ok (.lastore, 1) := by decide +kernel
theorem d_L_refresh_8 : decode b_L_refresh 8 = .ok (.goto 9, 3) := by decide +kernel
theorem d_L_refresh_11 : decode b_L_refresh 11 = .ok (.astore_n 2, 1) := by decide +kernel
theorem d_L_refresh_12 : decode b_L_refresh 12 = .ok (.iconst 1, 1) := by decide +kernel
theorem d_L_refresh_13 : decode b_L_refresh 13 = .ok (.ireturn, 1) := by decide +kernel
theorem d_L_refresh_14 : decode b_L_refresh 14 = .ok (.astore_n 2, 1) := by decide +kernel
theorem d_L_refresh_15 : decode b_L_refresh 15 = .ok (.iconst 2, 1) := by decide +kernel
theorem d_L_refresh_16 : decode b_L_refresh 16 = .ok (.ireturn, 1) := by decide +kernel
theorem d_L_refresh_17 : decode b_L_refresh 17 = .ok (.iconst 0, 1) := by decide +kernel
theorem d_L_refresh_18 : decode b_L_refresh 18 = .ok (.ireturn, 1) := by decide +kernel
theorem d_L_empty_0 : decode b_L_empty 0 = .ok (.aload_n 2, 1) := by decide +kernel
theorem d_L_empty_1 : decode b_L_empty 1 = .ok (.iconst 0, 1) := by decide +kernel
theorem d_L_empty_2 : decode b_L_empty 2 = .ok (.aload_n 0, 1) := by decide +kernel
theorem d_L_empty_3 : decode b_L_empty 3 = .ok (.iload_n 1, 1) := by decide +kernel
theorem d_L_empty_4 : decode b_L_empty 4 = .ok (.invokevirtual 27, 3) := by decide +kernel
theorem d_L_empty_7 : decode b_L_empty 7 = .ok (.i2l, 1) := by decide +kernel
theorem d_L_empty_8 : decode b_L_empty 8 = .ok (.lastore, 1) := by decide +kernel
theorem d_L_empty_9 : decode b_L_empty 9 = .ok (.goto 9, 3) := by decide +kernel
theorem d_L_empty_12 : decode b_L_empty 12 = .ok (.astore_n 3, 1) := by decide +kernel
theorem d_L_empty_13 : decode b_L_empty 13 = .ok (.iconst 1, 1) := by decide +kernel
theorem d_L_empty_14 : decode b_L_empty 14 = .ok (.ireturn, 1) := by decide +kernel
theorem d_L_empty_15 : decode b_L_empty 15 = .ok (.astore_n 3, 1) := by decide +kernel
theorem d_L_empty_16 : decode b_L_empty 16 = .ok (.iconst 2, 1) := by decide +kernel
theorem d_L_empty_17 : decode b_L_empty 17 = .ok (.ireturn, 1) := by decide +kernel
theorem d_L_empty_18 : decode b_L_empty 18 = .ok (.iconst 0, 1) := by decide +kernel
theorem d_L_empty_19 : decode b_L_empty 19 = .ok (.ireturn, 1) := by decide +kernel
theorem d_L_rebuild_0 : decode b_L_rebuild 0 = .ok (.aload_n 3, 1) := by decide +kernel
theorem d_L_rebuild_1 : decode b_L_rebuild 1 = .ok (.iconst 0, 1) := by decide +kernel
theorem d_L_rebuild_2 : decode b_L_rebuild 2 = .ok (.aload_n 0, 1) := by decide +kernel
theorem d_L_rebuild_3 : decode b_L_rebuild 3 = .ok (.iload_n 1, 1) := by decide +kernel
theorem d_L_rebuild_4 : decode b_L_rebuild 4 = .ok (.iload_n 2, 1) := by decide +kernel
theorem d_L_rebuild_5 : decode b_L_rebuild 5 = .ok (.invokevirtual 31, 3) := by decide +kernel
theorem d_L_rebuild_8 : decode b_L_rebuild 8 = .ok (.i2l, 1) := by decide +kernel
theorem d_L_rebuild_9 : decode b_L_rebuild 9 = .ok (.lastore, 1) := by decide +kernel
theorem d_L_rebuild_10 : decode b_L_rebuild 10 = .ok (.goto 15, 3) := by decide +kernel
theorem d_L_rebuild_13 : decode b_L_rebuild 13 = .ok (.astore 4, 2) := by decide +kernel
theorem d_L_rebuild_15 : decode b_L_rebuild 15 = .ok (.iconst 1, 1) := by decide +kernel
theorem d_L_rebuild_16 : decode b_L_rebuild 16 = .ok (.ireturn, 1) := by decide +kernel
theorem d_L_rebuild_17 : decode b_L_rebuild 17 = .ok (.astore 4, 2) := by decide +kernel
theorem d_L_rebuild_19 : decode b_L_rebuild 19 = .ok (.iconst 2, 1) := by decide +kernel
theorem d_L_rebuild_20 : decode b_L_rebuild 20 = .ok (.ireturn, 1) := by decide +kernel
theorem d_L_rebuild_21 : decode b_L_rebuild 21 = .ok (.astore 4, 2) := by decide +kernel
theorem d_L_rebuild_23 : decode b_L_rebuild 23 = .ok (.iconst 3, 1) := by decide +kernel
theorem d_L_rebuild_24 : decode b_L_rebuild 24 = .ok (.ireturn, 1) := by decide +kernel
theorem d_L_rebuild_25 : decode b_L_rebuild 25 = .ok (.iconst 0, 1) := by decide +kernel
theorem d_L_rebuild_26 : decode b_L_rebuild 26 = .ok (.ireturn, 1) := by decide +kernel
theorem d_L_stopAfter_0 : decode b_L_stopAfter 0 = .ok (.aload_n 0, 1) := by decide +kernel
theorem d_L_stopAfter_1 : decode b_L_stopAfter 1 = .ok (.iload_n 1, 1) := by decide +kernel
theorem d_L_stopAfter_2 : decode b_L_stopAfter 2 = .ok (.invokevirtual 35, 3) := by decide +kernel
theorem d_L_stopAfter_5 : decode b_L_stopAfter 5 = .ok (.goto 6, 3) := by decide +kernel
theorem d_L_stopAfter_8 : decode b_L_stopAfter 8 = .ok (.astore_n 2, 1) := by decide +kernel
theorem d_L_stopAfter_9 : decode b_L_stopAfter 9 = .ok (.iconst 1, 1) := by decide +kernel
theorem d_L_stopAfter_10 : decode b_L_stopAfter 10 = .ok (.ireturn, 1) := by decide +kernel
theorem d_L_stopAfter_11 : decode b_L_stopAfter 11 = .ok (.iconst 0, 1) := by decide +kernel
theorem d_L_stopAfter_12 : decode b_L_stopAfter 12 = .ok (.ireturn, 1) := by decide +kernel
theorem d_L_restore_0 : decode b_L_restore 0 = .ok (.aload_n 3, 1) := by decide +kernel
theorem d_L_restore_1 : decode b_L_restore 1 = .ok (.iconst 0, 1) := by decide +kernel
theorem d_L_restore_2 : decode b_L_restore 2 = .ok (.aload_n 0, 1) := by decide +kernel
theorem d_L_restore_3 : decode b_L_restore 3 = .ok (.iload_n 1, 1) := by decide +kernel
theorem d_L_restore_4 : decode b_L_restore 4 = .ok (.iload_n 2, 1) := by decide +kernel
theorem d_L_restore_5 : decode b_L_restore 5 = .ok (.invokevirtual 39, 3) := by decide +kernel
theorem d_L_restore_8 : decode b_L_restore 8 = .ok (.lastore, 1) := by decide +kernel
theorem d_L_restore_9 : decode b_L_restore 9 = .ok (.goto 15, 3) := by decide +kernel
theorem d_L_restore_12 : decode b_L_restore 12 = .ok (.astore 4, 2) := by decide +kernel
theorem d_L_restore_14 : decode b_L_restore 14 = .ok (.iconst 1, 1) := by decide +kernel
theorem d_L_restore_15 : decode b_L_restore 15 = .ok (.ireturn, 1) := by decide +kernel
theorem d_L_restore_16 : decode b_L_restore 16 = .ok (.astore 4, 2) := by decide +kernel
theorem d_L_restore_18 : decode b_L_restore 18 = .ok (.iconst 2, 1) := by decide +kernel
theorem d_L_restore_19 : decode b_L_restore 19 = .ok (.ireturn, 1) := by decide +kernel
theorem d_L_restore_20 : decode b_L_restore 20 = .ok (.astore 4, 2) := by decide +kernel
theorem d_L_restore_22 : decode b_L_restore 22 = .ok (.iconst 3, 1) := by decide +kernel
theorem d_L_restore_23 : decode b_L_restore 23 = .ok (.ireturn, 1) := by decide +kernel
theorem d_L_restore_24 : decode b_L_restore 24 = .ok (.iconst 0, 1) := by decide +kernel
theorem d_L_restore_25 : decode b_L_restore 25 = .ok (.ireturn, 1) := by decide +kernel
theorem d_L_length_0 : decode b_L_length 0 = .ok (.aload_n 2, 1) := by decide +kernel
theorem d_L_length_1 : decode b_L_length 1 = .ok (.iconst 0, 1) := by decide +kernel
theorem d_L_length_2 : decode b_L_length 2 = .ok (.aload_n 0, 1) := by decide +kernel
theorem d_L_length_3 : decode b_L_length 3 = .ok (.iload_n 1, 1) := by decide +kernel
theorem d_L_length_4 : decode b_L_length 4 = .ok (.invokevirtual 45, 3) := by decide +kernel
theorem d_L_length_7 : decode b_L_length 7 = .ok (.i2l, 1) := by decide +kernel
theorem d_L_length_8 : decode b_L_length 8 = .ok (.lastore, 1) := by decide +kernel
theorem d_L_length_9 : decode b_L_length 9 = .ok (.goto 6, 3) := by decide +kernel
theorem d_L_length_12 : decode b_L_length 12 = .ok (.astore_n 3, 1) := by decide +kernel
theorem d_L_length_13 : decode b_L_length 13 = .ok (.iconst 1, 1) := by decide +kernel
theorem d_L_length_14 : decode b_L_length 14 = .ok (.ireturn, 1) := by decide +kernel
theorem d_L_length_15 : decode b_L_length 15 = .ok (.iconst 0, 1) := by decide +kernel
theorem d_L_length_16 : decode b_L_length 16 = .ok (.ireturn, 1) := by decide +kernel
theorem d_L_share_0 : decode b_L_share 0 = .ok (.aload 4, 2) := by decide +kernel
theorem d_L_share_2 : decode b_L_share 2 = .ok (.iconst 0, 1) := by decide +kernel
theorem d_L_share_3 : decode b_L_share 3 = .ok (.aload_n 0, 1) := by decide +kernel
theorem d_L_share_4 : decode b_L_share 4 = .ok (.iload_n 1, 1) := by decide +kernel
theorem d_L_share_5 : decode b_L_share 5 = .ok (.iload_n 2, 1) := by decide +kernel
theorem d_L_share_6 : decode b_L_share 6 = .ok (.iload_n 3, 1) := by decide +kernel
theorem d_L_share_7 : decode b_L_share 7 = .ok (.invokevirtual 48, 3) := by decide +kernel
theorem d_L_share_10 : decode b_L_share 10 = .ok (.i2l, 1) := by decide +kernel
theorem d_L_share_11 : decode b_L_share 11 = .ok (.lastore, 1) := by decide +kernel
theorem d_L_share_12 : decode b_L_share 12 = .ok (.goto 15, 3) := by decide +kernel
theorem d_L_share_15 : decode b_L_share 15 = .ok (.astore 5, 2) := by decide +kernel
theorem d_L_share_17 : decode b_L_share 17 = .ok (.iconst 1, 1) := by decide +kernel
theorem d_L_share_18 : decode b_L_share 18 = .ok (.ireturn, 1) := by decide +kernel
theorem d_L_share_19 : decode b_L_share 19 = .ok (.astore 5, 2) := by decide +kernel
theorem d_L_share_21 : decode b_L_share 21 = .ok (.iconst 2, 1) := by decide +kernel
theorem d_L_share_22 : decode b_L_share 22 = .ok (.ireturn, 1) := by decide +kernel
theorem d_L_share_23 : decode b_L_share 23 = .ok (.astore 5, 2) := by decide +kernel
theorem d_L_share_25 : decode b_L_share 25 = .ok (.iconst 3, 1) := by decide +kernel
theorem d_L_share_26 : decode b_L_share 26 = .ok (.ireturn, 1) := by decide +kernel
theorem d_L_share_27 : decode b_L_share 27 = .ok (.iconst 0, 1) := by decide +kernel
theorem d_L_share_28 : decode b_L_share 28 = .ok (.ireturn, 1) := by decide +kernel
theorem d_L_forget_0 : decode b_L_forget 0 = .ok (.aload_n 2, 1) := by decide +kernel
theorem d_L_forget_1 : decode b_L_forget 1 = .ok (.iconst 0, 1) := by decide +kernel
theorem d_L_forget_2 : decode b_L_forget 2 = .ok (.aload_n 0, 1) := by decide +kernel
theorem d_L_forget_3 : decode b_L_forget 3 = .ok (.iload_n 1, 1) := by decide +kernel
theorem d_L_forget_4 : decode b_L_forget 4 = .ok (.invokevirtual 54, 3) := by decide +kernel
theorem d_L_forget_7 : decode b_L_forget 7 = .ok (.i2l, 1) := by decide +kernel
theorem d_L_forget_8 : decode b_L_forget 8 = .ok (.lastore, 1) := by decide +kernel
theorem d_L_forget_9 : decode b_L_forget 9 = .ok (.goto 12, 3) := by decide +kernel
theorem d_L_forget_12 : decode b_L_forget 12 = .ok (.astore_n 3, 1) := by decide +kernel
theorem d_L_forget_13 : decode b_L_forget 13 = .ok (.iconst 1, 1) := by decide +kernel
theorem d_L_forget_14 : decode b_L_forget 14 = .ok (.ireturn, 1) := by decide +kernel
theorem d_L_forget_15 : decode b_L_forget 15 = .ok (.astore_n 3, 1) := by decide +kernel
theorem d_L_forget_16 : decode b_L_forget 16 = .ok (.iconst 2, 1) := by decide +kernel
theorem d_L_forget_17 : decode b_L_forget 17 = .ok (.ireturn, 1) := by decide +kernel
theorem d_L_forget_18 : decode b_L_forget 18 = .ok (.astore_n 3, 1) := by decide +kernel
theorem d_L_forget_19 : decode b_L_forget 19 = .ok (.iconst 3, 1) := by decide +kernel
theorem d_L_forget_20 : decode b_L_forget 20 = .ok (.ireturn, 1) := by decide +kernel
theorem d_L_forget_21 : decode b_L_forget 21 = .ok (.iconst 0, 1) := by decide +kernel
theorem d_L_forget_22 : decode b_L_forget 22 = .ok (.ireturn, 1) := by decide +kernel
theorem d_L_need_0 : decode b_L_need 0 = .ok (.aload_n 2, 1) := by decide +kernel
theorem d_L_need_1 : decode b_L_need 1 = .ok (.iconst 0, 1) := by decide +kernel
theorem d_L_need_2 : decode b_L_need 2 = .ok (.aload_n 0, 1) := by decide +kernel
theorem d_L_need_3 : decode b_L_need 3 = .ok (.iload_n 1, 1) := by decide +kernel
theorem d_L_need_4 : decode b_L_need 4 = .ok (.invokevirtual 57, 3) := by decide +kernel
theorem d_L_need_7 : decode b_L_need 7 = .ok (.i2l, 1) := by decide +kernel
theorem d_L_need_8 : decode b_L_need 8 = .ok (.lastore, 1) := by decide +kernel
theorem d_L_need_9 : decode b_L_need 9 = .ok (.goto 6, 3) := by decide +kernel
theorem d_L_need_12 : decode b_L_need 12 = .ok (.astore_n 3, 1) := by decide +kernel
theorem d_L_need_13 : decode b_L_need 13 = .ok (.iconst 1, 1) := by decide +kernel
theorem d_L_need_14 : decode b_L_need 14 = .ok (.ireturn, 1) := by decide +kernel
theorem d_L_need_15 : decode b_L_need 15 = .ok (.iconst 0, 1) := by decide +kernel
theorem d_L_need_16 : decode b_L_need 16 = .ok (.ireturn, 1) := by decide +kernel
theorem d_L_message_0 : decode b_L_message 0 = .ok (.aload_n 3, 1) := by decide +kernel
theorem d_L_message_1 : decode b_L_message 1 = .ok (.iconst 0, 1) := by decide +kernel
theorem d_L_message_2 : decode b_L_message 2 = .ok (.aload_n 0, 1) := by decide +kernel
theorem d_L_message_3 : decode b_L_message 3 = .ok (.iload_n 1, 1) := by decide +kernel
theorem d_L_message_4 : decode b_L_message 4 = .ok (.iload_n 2, 1) := by decide +kernel
theorem d_L_message_5 : decode b_L_message 5 = .ok (.invokevirtual 60, 3) := by decide +kernel
theorem d_L_message_8 : decode b_L_message 8 = .ok (.i2l, 1) := by decide +kernel
theorem d_L_message_9 : decode b_L_message 9 = .ok (.lastore, 1) := by decide +kernel
theorem d_L_message_10 : decode b_L_message 10 = .ok (.goto 11, 3) := by decide +kernel
theorem d_L_message_13 : decode b_L_message 13 = .ok (.astore 4, 2) := by decide +kernel
theorem d_L_message_15 : decode b_L_message 15 = .ok (.iconst 1, 1) := by decide +kernel
theorem d_L_message_16 : decode b_L_message 16 = .ok (.ireturn, 1) := by decide +kernel
theorem d_L_message_17 : decode b_L_message 17 = .ok (.astore 4, 2) := by decide +kernel
theorem d_L_message_19 : decode b_L_message 19 = .ok (.iconst 2, 1) := by decide +kernel
theorem d_L_message_20 : decode b_L_message 20 = .ok (.ireturn, 1) := by decide +kernel
theorem d_L_message_21 : decode b_L_message 21 = .ok (.iconst 0, 1) := by decide +kernel
theorem d_L_message_22 : decode b_L_message 22 = .ok (.ireturn, 1) := by decide +kernel
set_option maxHeartbeats 4000000 in
set_option maxRecDepth 100000 in
theorem c_L_feed_y (l : Launch) (D : va_G) (cI cZ cQ cJ : ClassId) (qv : Nat) (qo : Nat) (x0 : Int64) (x1 : Int32) (f : Nat → Int64) (rm : Room) (r : Int32) (Y : va_W) (Y' : va_W) (fs : List Value) (hrb : rb rm) (hM : sd_I l D (tyL cI cZ cQ) y_V_feed b_V_feed 5 .int rm [.ref qv, .long (x0), .int (x1)] Y r Y') (hadr : Y'.map (fun q => q.1) = Y.map (fun q => q.1)) (he : Y[0]? = some (qv, .inr (4, fs))) : sd_H l D (tyJ cI cZ cQ cJ) y_L_feed b_L_feed 6 h_L_feed ({ frames := 8, cells := rm.cells, slots := rm.slots, locals := 160 }) [.ref qv, .long (x0), .int (x1), .ref qo] ([(qo, .inl (cJ, 1, .inr (.inl (f))))] ++ (Y ++ [])) (0) ([(qo, .inl (cJ, 1, .inr (.inl (vp_updL (f) (0 : Int32).toNatClampNeg ((r).toInt64)))))] ++ (Y' ++ [])) := by
  obtain ⟨hrb1, hrb2, hrb3, hrb4⟩ := hrb
  refine sd_ofH (by decide) (Nat.le_of_ble_eq_true rfl) ?_
  intro p e s m below meth c A ls hx hb hr hml hlk hown hts hK hP hD hA hS hl hX hN htab
  have hl : lv_has ls 6 [(0, .ref qv), (1, .long (x0)), (3, .int (x1)), (4, .ref qo)] := hl
  refine lv_aload hx hb d_L_feed_0 (lv_at hl 3 rfl) ?_
  refine lv_iconst (v := 0) hx hb d_L_feed_2 (by decide) ?_
  refine lv_aload_n hx hb d_L_feed_3 rfl (lv_at hl 0 rfl) ?_
  refine lv_lload_n hx hb d_L_feed_4 rfl (lv_at hl 1 rfl) ?_
  refine lv_iload_n hx hb d_L_feed_5 rfl (lv_at hl 2 rfl) ?_
  refine md_VI (X := [(qo, .inl (cJ, 1, .inr (.inl (f))))]) (C := Y) (C' := Y') (Z := []) (As := [.long (x0), .int (x1)]) (rest := [.int (0), .ref qo]) hM ⟨wc_V_feed, wm_L_7, wi_V, by decide, by decide, show (parseMethodDescriptor y_V_feed.desc).map (fun d => d.parameters.length) = some 2 by decide +kernel⟩ wo_V_feed wz_V_feed hx hb hml hown hts hl.1 ⟨by show rm.frames + 1 ≤ 8; omega, by show 8 + (5 + 11) + rm.locals ≤ 160; omega⟩ ⟨by show 0 + rm.cells ≤ rm.cells; omega, by show 0 + rm.slots ≤ rm.slots; omega⟩ (ty_J hK) hP hD hS hA hadr he rfl rfl (Nat.le_of_ble_eq_true rfl) d_L_feed_6 (fun H locs hP hD hS => ?_)
  have hP : va_P D cls ([(qo, .inl (cJ, 1, .inr (.inl (f))))] ++ (Y' ++ [])) H := hP
  have hD : va_D A ([(qo, .inl (cJ, 1, .inr (.inl (f))))] ++ (Y' ++ [])) := hD
  refine lv_i2l hx hb d_L_feed_9 rfl ?_
  refine va_last hx hb hK hP hD hS 0 3 rfl rfl (by unfold vp_in; decide) d_L_feed_10 (fun H locs hP hD hS => ?_)
  have hP : va_P D cls ([(qo, .inl (cJ, 1, .inr (.inl (vp_updL (f) (0 : Int32).toNatClampNeg ((r).toInt64)))))] ++ (Y' ++ [])) H := hP
  have hD : va_D A ([(qo, .inl (cJ, 1, .inr (.inl (vp_updL (f) (0 : Int32).toNatClampNeg ((r).toInt64)))))] ++ (Y' ++ [])) := hD
  refine lv_goto (tgt := 22) hx hb d_L_feed_11 rfl ?_
  refine lv_iconst (v := 0) hx hb d_L_feed_22 (by decide) ?_
  exact sd_iret hx hb hr hlk hP hS (by show 0 + rm.cells ≤ rm.cells; omega) (by show 0 + rm.slots ≤ rm.slots; omega) (rfl) d_L_feed_23
set_option maxHeartbeats 4000000 in
set_option maxRecDepth 100000 in
theorem c_L_feed_x1 (l : Launch) (D : va_G) (cI cZ cQ cJ : ClassId) (qv : Nat) (qo : Nat) (x0 : Int64) (x1 : Int32) (f : Nat → Int64) (rm : Room) (Y : va_W) (Y' : va_W) (fs : List Value) (hrb : rb rm) (hM : sd_X l D (tyL cI cZ cQ) y_V_feed b_V_feed 5 (some .int) rm [.ref qv, .long (x0), .int (x1)] Y "java/lang/IllegalArgumentException" Y') (hadr : Y'.map (fun q => q.1) = Y.map (fun q => q.1)) (he : Y[0]? = some (qv, .inr (4, fs))) : sd_H l D (tyJ cI cZ cQ cJ) y_L_feed b_L_feed 6 h_L_feed ({ frames := 8, cells := rm.cells, slots := rm.slots, locals := 160 }) [.ref qv, .long (x0), .int (x1), .ref qo] ([(qo, .inl (cJ, 1, .inr (.inl (f))))] ++ (Y ++ [])) (1) ([(qo, .inl (cJ, 1, .inr (.inl (f))))] ++ (Y' ++ [])) := by
  obtain ⟨hrb1, hrb2, hrb3, hrb4⟩ := hrb
  refine sd_ofH (by decide) (Nat.le_of_ble_eq_true rfl) ?_
  intro p e s m below meth c A ls hx hb hr hml hlk hown hts hK hP hD hA hS hl hX hN htab
  have hl : lv_has ls 6 [(0, .ref qv), (1, .long (x0)), (3, .int (x1)), (4, .ref qo)] := hl
  refine lv_aload hx hb d_L_feed_0 (lv_at hl 3 rfl) ?_
  refine lv_iconst (v := 0) hx hb d_L_feed_2 (by decide) ?_
  refine lv_aload_n hx hb d_L_feed_3 rfl (lv_at hl 0 rfl) ?_
  refine lv_lload_n hx hb d_L_feed_4 rfl (lv_at hl 1 rfl) ?_
  refine lv_iload_n hx hb d_L_feed_5 rfl (lv_at hl 2 rfl) ?_
  refine md_VX (X := [(qo, .inl (cJ, 1, .inr (.inl (f))))]) (C := Y) (C' := Y') (Z := []) (As := [.long (x0), .int (x1)]) (rest := [.int (0), .ref qo]) hM ⟨wc_V_feed, wm_L_7, wi_V, by decide, by decide, show (parseMethodDescriptor y_V_feed.desc).map (fun d => d.parameters.length) = some 2 by decide +kernel⟩ wo_V_feed wz_V_feed hx hb hml hown hts hl.1 ⟨by show rm.frames + 1 ≤ 8; omega, by show 8 + (5 + 11) + rm.locals ≤ 160; omega⟩ ⟨by show 0 + rm.cells ≤ rm.cells; omega, by show 0 + rm.slots ≤ rm.slots; omega⟩ (ty_J hK) hP hD hS hA hX hadr he rfl rfl (Nat.le_of_ble_eq_true rfl) d_L_feed_6 [] ⟨0, 11, 14, 13⟩ [⟨0, 11, 18, 15⟩] htab (fun _ h9 => absurd h9 List.not_mem_nil) (by decide) (by decide) wk_L_13 (by decide) (fun q9 H locs hP hD hS => ?_)
  have hP : va_P D cls ([(qo, .inl (cJ, 1, .inr (.inl (f))))] ++ (Y' ++ [])) H := hP
  have hD : va_D A ([(qo, .inl (cJ, 1, .inr (.inl (f))))] ++ (Y' ++ [])) := hD
  refine lv_astore hx hb d_L_feed_14 hl (Nat.le_of_ble_eq_true rfl) (lv' := [(5, .ref q9), (0, .ref qv), (1, .long (x0)), (3, .int (x1)), (4, .ref qo)]) rfl (fun ls hl => ?_)
  refine lv_iconst (v := 1) hx hb d_L_feed_16 (by decide) ?_
  exact sd_iret hx hb hr hlk hP hS (by show 0 + rm.cells ≤ rm.cells; omega) (by show 0 + rm.slots ≤ rm.slots; omega) (rfl) d_L_feed_17
set_option maxHeartbeats 4000000 in
set_option maxRecDepth 100000 in
theorem c_L_feed_x2 (l : Launch) (D : va_G) (cI cZ cQ cJ : ClassId) (qv : Nat) (qo : Nat) (x0 : Int64) (x1 : Int32) (f : Nat → Int64) (rm : Room) (Y : va_W) (Y' : va_W) (fs : List Value) (hrb : rb rm) (hM : sd_X l D (tyL cI cZ cQ) y_V_feed b_V_feed 5 (some .int) rm [.ref qv, .long (x0), .int (x1)] Y "java/lang/UnsupportedOperationException" Y') (hadr : Y'.map (fun q => q.1) = Y.map (fun q => q.1)) (he : Y[0]? = some (qv, .inr (4, fs))) : sd_H l D (tyJ cI cZ cQ cJ) y_L_feed b_L_feed 6 h_L_feed ({ frames := 8, cells := rm.cells, slots := rm.slots, locals := 160 }) [.ref qv, .long (x0), .int (x1), .ref qo] ([(qo, .inl (cJ, 1, .inr (.inl (f))))] ++ (Y ++ [])) (2) ([(qo, .inl (cJ, 1, .inr (.inl (f))))] ++ (Y' ++ [])) := by
  obtain ⟨hrb1, hrb2, hrb3, hrb4⟩ := hrb
  refine sd_ofH (by decide) (Nat.le_of_ble_eq_true rfl) ?_
  intro p e s m below meth c A ls hx hb hr hml hlk hown hts hK hP hD hA hS hl hX hN htab
  have hl : lv_has ls 6 [(0, .ref qv), (1, .long (x0)), (3, .int (x1)), (4, .ref qo)] := hl
  refine lv_aload hx hb d_L_feed_0 (lv_at hl 3 rfl) ?_
  refine lv_iconst (v := 0) hx hb d_L_feed_2 (by decide) ?_
  refine lv_aload_n hx hb d_L_feed_3 rfl (lv_at hl 0 rfl) ?_
  refine lv_lload_n hx hb d_L_feed_4 rfl (lv_at hl 1 rfl) ?_
  refine lv_iload_n hx hb d_L_feed_5 rfl (lv_at hl 2 rfl) ?_
  refine md_VX (X := [(qo, .inl (cJ, 1, .inr (.inl (f))))]) (C := Y) (C' := Y') (Z := []) (As := [.long (x0), .int (x1)]) (rest := [.int (0), .ref qo]) hM ⟨wc_V_feed, wm_L_7, wi_V, by decide, by decide, show (parseMethodDescriptor y_V_feed.desc).map (fun d => d.parameters.length) = some 2 by decide +kernel⟩ wo_V_feed wz_V_feed hx hb hml hown hts hl.1 ⟨by show rm.frames + 1 ≤ 8; omega, by show 8 + (5 + 11) + rm.locals ≤ 160; omega⟩ ⟨by show 0 + rm.cells ≤ rm.cells; omega, by show 0 + rm.slots ≤ rm.slots; omega⟩ (ty_J hK) hP hD hS hA hX hadr he rfl rfl (Nat.le_of_ble_eq_true rfl) d_L_feed_6 [⟨0, 11, 14, 13⟩] ⟨0, 11, 18, 15⟩ [] htab (List.forall_mem_cons.mpr ⟨Or.inr ⟨by decide, "java/lang/IllegalArgumentException", hts _ wk_L_13, hN ("java/lang/UnsupportedOperationException", "java/lang/IllegalArgumentException") (by decide)⟩, fun _ h9 => absurd h9 List.not_mem_nil⟩) (by decide) (by decide) wk_L_15 (by decide) (fun q9 H locs hP hD hS => ?_)
  have hP : va_P D cls ([(qo, .inl (cJ, 1, .inr (.inl (f))))] ++ (Y' ++ [])) H := hP
  have hD : va_D A ([(qo, .inl (cJ, 1, .inr (.inl (f))))] ++ (Y' ++ [])) := hD
  refine lv_astore hx hb d_L_feed_18 hl (Nat.le_of_ble_eq_true rfl) (lv' := [(5, .ref q9), (0, .ref qv), (1, .long (x0)), (3, .int (x1)), (4, .ref qo)]) rfl (fun ls hl => ?_)
  refine lv_iconst (v := 2) hx hb d_L_feed_20 (by decide) ?_
  exact sd_iret hx hb hr hlk hP hS (by show 0 + rm.cells ≤ rm.cells; omega) (by show 0 + rm.slots ≤ rm.slots; omega) (rfl) d_L_feed_21
set_option maxHeartbeats 4000000 in
set_option maxRecDepth 100000 in
theorem c_L_store_y (l : Launch) (D : va_G) (cI cZ cQ cJ : ClassId) (qv : Nat) (qo : Nat) (x0 : Int32) (x1 : Int64) (x2 : Int32) (f : Nat → Int64) (rm : Room) (r : Int32) (Y : va_W) (Y' : va_W) (fs : List Value) (hrb : rb rm) (hM : sd_I l D (tyL cI cZ cQ) y_V_store b_V_store 8 .int rm [.ref qv, .int (x0), .long (x1), .int (x2)] Y r Y') (hadr : Y'.map (fun q => q.1) = Y.map (fun q => q.1)) (he : Y[0]? = some (qv, .inr (4, fs))) : sd_H l D (tyJ cI cZ cQ cJ) y_L_store b_L_store 7 h_L_store ({ frames := 8, cells := rm.cells, slots := rm.slots, locals := 160 }) [.ref qv, .int (x0), .long (x1), .int (x2), .ref qo] ([(qo, .inl (cJ, 1, .inr (.inl (f))))] ++ (Y ++ [])) (0) ([(qo, .inl (cJ, 1, .inr (.inl (vp_updL (f) (0 : Int32).toNatClampNeg ((r).toInt64)))))] ++ (Y' ++ [])) := by
  obtain ⟨hrb1, hrb2, hrb3, hrb4⟩ := hrb
  refine sd_ofH (by decide) (Nat.le_of_ble_eq_true rfl) ?_
  intro p e s m below meth c A ls hx hb hr hml hlk hown hts hK hP hD hA hS hl hX hN htab
  have hl : lv_has ls 7 [(0, .ref qv), (1, .int (x0)), (2, .long (x1)), (4, .int (x2)), (5, .ref qo)] := hl
  refine lv_aload hx hb d_L_store_0 (lv_at hl 4 rfl) ?_
  refine lv_iconst (v := 0) hx hb d_L_store_2 (by decide) ?_
  refine lv_aload_n hx hb d_L_store_3 rfl (lv_at hl 0 rfl) ?_
  refine lv_iload_n hx hb d_L_store_4 rfl (lv_at hl 1 rfl) ?_
  refine lv_lload_n hx hb d_L_store_5 rfl (lv_at hl 2 rfl) ?_
  refine lv_iload hx hb d_L_store_6 (lv_at hl 3 rfl) ?_
  refine md_VI (X := [(qo, .inl (cJ, 1, .inr (.inl (f))))]) (C := Y) (C' := Y') (Z := []) (As := [.int (x0), .long (x1), .int (x2)]) (rest := [.int (0), .ref qo]) hM ⟨wc_V_store, wm_L_17, wi_V, by decide, by decide, show (parseMethodDescriptor y_V_store.desc).map (fun d => d.parameters.length) = some 3 by decide +kernel⟩ wo_V_store wz_V_store hx hb hml hown hts hl.1 ⟨by show rm.frames + 1 ≤ 8; omega, by show 8 + (8 + 11) + rm.locals ≤ 160; omega⟩ ⟨by show 0 + rm.cells ≤ rm.cells; omega, by show 0 + rm.slots ≤ rm.slots; omega⟩ (ty_J hK) hP hD hS hA hadr he rfl rfl (Nat.le_of_ble_eq_true rfl) d_L_store_8 (fun H locs hP hD hS => ?_)
  have hP : va_P D cls ([(qo, .inl (cJ, 1, .inr (.inl (f))))] ++ (Y' ++ [])) H := hP
  have hD : va_D A ([(qo, .inl (cJ, 1, .inr (.inl (f))))] ++ (Y' ++ [])) := hD
  refine lv_i2l hx hb d_L_store_11 rfl ?_
  refine va_last hx hb hK hP hD hS 0 3 rfl rfl (by unfold vp_in; decide) d_L_store_12 (fun H locs hP hD hS => ?_)
  have hP : va_P D cls ([(qo, .inl (cJ, 1, .inr (.inl (vp_updL (f) (0 : Int32).toNatClampNeg ((r).toInt64)))))] ++ (Y' ++ [])) H := hP
  have hD : va_D A ([(qo, .inl (cJ, 1, .inr (.inl (vp_updL (f) (0 : Int32).toNatClampNeg ((r).toInt64)))))] ++ (Y' ++ [])) := hD
  refine lv_goto (tgt := 28) hx hb d_L_store_13 rfl ?_
  refine lv_iconst (v := 0) hx hb d_L_store_28 (by decide) ?_
  exact sd_iret hx hb hr hlk hP hS (by show 0 + rm.cells ≤ rm.cells; omega) (by show 0 + rm.slots ≤ rm.slots; omega) (rfl) d_L_store_29
set_option maxHeartbeats 4000000 in
set_option maxRecDepth 100000 in
theorem c_L_store_x1 (l : Launch) (D : va_G) (cI cZ cQ cJ : ClassId) (qv : Nat) (qo : Nat) (x0 : Int32) (x1 : Int64) (x2 : Int32) (f : Nat → Int64) (rm : Room) (Y : va_W) (Y' : va_W) (fs : List Value) (hrb : rb rm) (hM : sd_X l D (tyL cI cZ cQ) y_V_store b_V_store 8 (some .int) rm [.ref qv, .int (x0), .long (x1), .int (x2)] Y "java/lang/IllegalArgumentException" Y') (hadr : Y'.map (fun q => q.1) = Y.map (fun q => q.1)) (he : Y[0]? = some (qv, .inr (4, fs))) : sd_H l D (tyJ cI cZ cQ cJ) y_L_store b_L_store 7 h_L_store ({ frames := 8, cells := rm.cells, slots := rm.slots, locals := 160 }) [.ref qv, .int (x0), .long (x1), .int (x2), .ref qo] ([(qo, .inl (cJ, 1, .inr (.inl (f))))] ++ (Y ++ [])) (1) ([(qo, .inl (cJ, 1, .inr (.inl (f))))] ++ (Y' ++ [])) := by
  obtain ⟨hrb1, hrb2, hrb3, hrb4⟩ := hrb
  refine sd_ofH (by decide) (Nat.le_of_ble_eq_true rfl) ?_
  intro p e s m below meth c A ls hx hb hr hml hlk hown hts hK hP hD hA hS hl hX hN htab
  have hl : lv_has ls 7 [(0, .ref qv), (1, .int (x0)), (2, .long (x1)), (4, .int (x2)), (5, .ref qo)] := hl
  refine lv_aload hx hb d_L_store_0 (lv_at hl 4 rfl) ?_
  refine lv_iconst (v := 0) hx hb d_L_store_2 (by decide) ?_
  refine lv_aload_n hx hb d_L_store_3 rfl (lv_at hl 0 rfl) ?_
  refine lv_iload_n hx hb d_L_store_4 rfl (lv_at hl 1 rfl) ?_
  refine lv_lload_n hx hb d_L_store_5 rfl (lv_at hl 2 rfl) ?_
  refine lv_iload hx hb d_L_store_6 (lv_at hl 3 rfl) ?_
  refine md_VX (X := [(qo, .inl (cJ, 1, .inr (.inl (f))))]) (C := Y) (C' := Y') (Z := []) (As := [.int (x0), .long (x1), .int (x2)]) (rest := [.int (0), .ref qo]) hM ⟨wc_V_store, wm_L_17, wi_V, by decide, by decide, show (parseMethodDescriptor y_V_store.desc).map (fun d => d.parameters.length) = some 3 by decide +kernel⟩ wo_V_store wz_V_store hx hb hml hown hts hl.1 ⟨by show rm.frames + 1 ≤ 8; omega, by show 8 + (8 + 11) + rm.locals ≤ 160; omega⟩ ⟨by show 0 + rm.cells ≤ rm.cells; omega, by show 0 + rm.slots ≤ rm.slots; omega⟩ (ty_J hK) hP hD hS hA hX hadr he rfl rfl (Nat.le_of_ble_eq_true rfl) d_L_store_8 [] ⟨0, 13, 16, 13⟩ [⟨0, 13, 20, 21⟩, ⟨0, 13, 24, 15⟩] htab (fun _ h9 => absurd h9 List.not_mem_nil) (by decide) (by decide) wk_L_13 (by decide) (fun q9 H locs hP hD hS => ?_)
  have hP : va_P D cls ([(qo, .inl (cJ, 1, .inr (.inl (f))))] ++ (Y' ++ [])) H := hP
  have hD : va_D A ([(qo, .inl (cJ, 1, .inr (.inl (f))))] ++ (Y' ++ [])) := hD
  refine lv_astore hx hb d_L_store_16 hl (Nat.le_of_ble_eq_true rfl) (lv' := [(6, .ref q9), (0, .ref qv), (1, .int (x0)), (2, .long (x1)), (4, .int (x2)), (5, .ref qo)]) rfl (fun ls hl => ?_)
  refine lv_iconst (v := 1) hx hb d_L_store_18 (by decide) ?_
  exact sd_iret hx hb hr hlk hP hS (by show 0 + rm.cells ≤ rm.cells; omega) (by show 0 + rm.slots ≤ rm.slots; omega) (rfl) d_L_store_19
set_option maxHeartbeats 4000000 in
set_option maxRecDepth 100000 in
theorem c_L_store_x2 (l : Launch) (D : va_G) (cI cZ cQ cJ : ClassId) (qv : Nat) (qo : Nat) (x0 : Int32) (x1 : Int64) (x2 : Int32) (f : Nat → Int64) (rm : Room) (Y : va_W) (Y' : va_W) (fs : List Value) (hrb : rb rm) (hM : sd_X l D (tyL cI cZ cQ) y_V_store b_V_store 8 (some .int) rm [.ref qv, .int (x0), .long (x1), .int (x2)] Y "java/lang/IllegalStateException" Y') (hadr : Y'.map (fun q => q.1) = Y.map (fun q => q.1)) (he : Y[0]? = some (qv, .inr (4, fs))) : sd_H l D (tyJ cI cZ cQ cJ) y_L_store b_L_store 7 h_L_store ({ frames := 8, cells := rm.cells, slots := rm.slots, locals := 160 }) [.ref qv, .int (x0), .long (x1), .int (x2), .ref qo] ([(qo, .inl (cJ, 1, .inr (.inl (f))))] ++ (Y ++ [])) (2) ([(qo, .inl (cJ, 1, .inr (.inl (f))))] ++ (Y' ++ [])) := by
  obtain ⟨hrb1, hrb2, hrb3, hrb4⟩ := hrb
  refine sd_ofH (by decide) (Nat.le_of_ble_eq_true rfl) ?_
  intro p e s m below meth c A ls hx hb hr hml hlk hown hts hK hP hD hA hS hl hX hN htab
  have hl : lv_has ls 7 [(0, .ref qv), (1, .int (x0)), (2, .long (x1)), (4, .int (x2)), (5, .ref qo)] := hl
  refine lv_aload hx hb d_L_store_0 (lv_at hl 4 rfl) ?_
  refine lv_iconst (v := 0) hx hb d_L_store_2 (by decide) ?_
  refine lv_aload_n hx hb d_L_store_3 rfl (lv_at hl 0 rfl) ?_
  refine lv_iload_n hx hb d_L_store_4 rfl (lv_at hl 1 rfl) ?_
  refine lv_lload_n hx hb d_L_store_5 rfl (lv_at hl 2 rfl) ?_
  refine lv_iload hx hb d_L_store_6 (lv_at hl 3 rfl) ?_
  refine md_VX (X := [(qo, .inl (cJ, 1, .inr (.inl (f))))]) (C := Y) (C' := Y') (Z := []) (As := [.int (x0), .long (x1), .int (x2)]) (rest := [.int (0), .ref qo]) hM ⟨wc_V_store, wm_L_17, wi_V, by decide, by decide, show (parseMethodDescriptor y_V_store.desc).map (fun d => d.parameters.length) = some 3 by decide +kernel⟩ wo_V_store wz_V_store hx hb hml hown hts hl.1 ⟨by show rm.frames + 1 ≤ 8; omega, by show 8 + (8 + 11) + rm.locals ≤ 160; omega⟩ ⟨by show 0 + rm.cells ≤ rm.cells; omega, by show 0 + rm.slots ≤ rm.slots; omega⟩ (ty_J hK) hP hD hS hA hX hadr he rfl rfl (Nat.le_of_ble_eq_true rfl) d_L_store_8 [⟨0, 13, 16, 13⟩] ⟨0, 13, 20, 21⟩ [⟨0, 13, 24, 15⟩] htab (List.forall_mem_cons.mpr ⟨Or.inr ⟨by decide, "java/lang/IllegalArgumentException", hts _ wk_L_13, hN ("java/lang/IllegalStateException", "java/lang/IllegalArgumentException") (by decide)⟩, fun _ h9 => absurd h9 List.not_mem_nil⟩) (by decide) (by decide) wk_L_21 (by decide) (fun q9 H locs hP hD hS => ?_)
  have hP : va_P D cls ([(qo, .inl (cJ, 1, .inr (.inl (f))))] ++ (Y' ++ [])) H := hP
  have hD : va_D A ([(qo, .inl (cJ, 1, .inr (.inl (f))))] ++ (Y' ++ [])) := hD
  refine lv_astore hx hb d_L_store_20 hl (Nat.le_of_ble_eq_true rfl) (lv' := [(6, .ref q9), (0, .ref qv), (1, .int (x0)), (2, .long (x1)), (4, .int (x2)), (5, .ref qo)]) rfl (fun ls hl => ?_)
  refine lv_iconst (v := 2) hx hb d_L_store_22 (by decide) ?_
  exact sd_iret hx hb hr hlk hP hS (by show 0 + rm.cells ≤ rm.cells; omega) (by show 0 + rm.slots ≤ rm.slots; omega) (rfl) d_L_store_23
set_option maxHeartbeats 4000000 in
set_option maxRecDepth 100000 in
theorem c_L_store_x3 (l : Launch) (D : va_G) (cI cZ cQ cJ : ClassId) (qv : Nat) (qo : Nat) (x0 : Int32) (x1 : Int64) (x2 : Int32) (f : Nat → Int64) (rm : Room) (Y : va_W) (Y' : va_W) (fs : List Value) (hrb : rb rm) (hM : sd_X l D (tyL cI cZ cQ) y_V_store b_V_store 8 (some .int) rm [.ref qv, .int (x0), .long (x1), .int (x2)] Y "java/lang/UnsupportedOperationException" Y') (hadr : Y'.map (fun q => q.1) = Y.map (fun q => q.1)) (he : Y[0]? = some (qv, .inr (4, fs))) : sd_H l D (tyJ cI cZ cQ cJ) y_L_store b_L_store 7 h_L_store ({ frames := 8, cells := rm.cells, slots := rm.slots, locals := 160 }) [.ref qv, .int (x0), .long (x1), .int (x2), .ref qo] ([(qo, .inl (cJ, 1, .inr (.inl (f))))] ++ (Y ++ [])) (3) ([(qo, .inl (cJ, 1, .inr (.inl (f))))] ++ (Y' ++ [])) := by
  obtain ⟨hrb1, hrb2, hrb3, hrb4⟩ := hrb
  refine sd_ofH (by decide) (Nat.le_of_ble_eq_true rfl) ?_
  intro p e s m below meth c A ls hx hb hr hml hlk hown hts hK hP hD hA hS hl hX hN htab
  have hl : lv_has ls 7 [(0, .ref qv), (1, .int (x0)), (2, .long (x1)), (4, .int (x2)), (5, .ref qo)] := hl
  refine lv_aload hx hb d_L_store_0 (lv_at hl 4 rfl) ?_
  refine lv_iconst (v := 0) hx hb d_L_store_2 (by decide) ?_
  refine lv_aload_n hx hb d_L_store_3 rfl (lv_at hl 0 rfl) ?_
  refine lv_iload_n hx hb d_L_store_4 rfl (lv_at hl 1 rfl) ?_
  refine lv_lload_n hx hb d_L_store_5 rfl (lv_at hl 2 rfl) ?_
  refine lv_iload hx hb d_L_store_6 (lv_at hl 3 rfl) ?_
  refine md_VX (X := [(qo, .inl (cJ, 1, .inr (.inl (f))))]) (C := Y) (C' := Y') (Z := []) (As := [.int (x0), .long (x1), .int (x2)]) (rest := [.int (0), .ref qo]) hM ⟨wc_V_store, wm_L_17, wi_V, by decide, by decide, show (parseMethodDescriptor y_V_store.desc).map (fun d => d.parameters.length) = some 3 by decide +kernel⟩ wo_V_store wz_V_store hx hb hml hown hts hl.1 ⟨by show rm.frames + 1 ≤ 8; omega, by show 8 + (8 + 11) + rm.locals ≤ 160; omega⟩ ⟨by show 0 + rm.cells ≤ rm.cells; omega, by show 0 + rm.slots ≤ rm.slots; omega⟩ (ty_J hK) hP hD hS hA hX hadr he rfl rfl (Nat.le_of_ble_eq_true rfl) d_L_store_8 [⟨0, 13, 16, 13⟩, ⟨0, 13, 20, 21⟩] ⟨0, 13, 24, 15⟩ [] htab (List.forall_mem_cons.mpr ⟨Or.inr ⟨by decide, "java/lang/IllegalArgumentException", hts _ wk_L_13, hN ("java/lang/UnsupportedOperationException", "java/lang/IllegalArgumentException") (by decide)⟩, List.forall_mem_cons.mpr ⟨Or.inr ⟨by decide, "java/lang/IllegalStateException", hts _ wk_L_21, hN ("java/lang/UnsupportedOperationException", "java/lang/IllegalStateException") (by decide)⟩, fun _ h9 => absurd h9 List.not_mem_nil⟩⟩) (by decide) (by decide) wk_L_15 (by decide) (fun q9 H locs hP hD hS => ?_)
  have hP : va_P D cls ([(qo, .inl (cJ, 1, .inr (.inl (f))))] ++ (Y' ++ [])) H := hP
  have hD : va_D A ([(qo, .inl (cJ, 1, .inr (.inl (f))))] ++ (Y' ++ [])) := hD
  refine lv_astore hx hb d_L_store_24 hl (Nat.le_of_ble_eq_true rfl) (lv' := [(6, .ref q9), (0, .ref qv), (1, .int (x0)), (2, .long (x1)), (4, .int (x2)), (5, .ref qo)]) rfl (fun ls hl => ?_)
  refine lv_iconst (v := 3) hx hb d_L_store_26 (by decide) ?_
  exact sd_iret hx hb hr hlk hP hS (by show 0 + rm.cells ≤ rm.cells; omega) (by show 0 + rm.slots ≤ rm.slots; omega) (rfl) d_L_store_27
set_option maxHeartbeats 4000000 in
set_option maxRecDepth 100000 in
theorem c_L_refresh_y (l : Launch) (D : va_G) (cI cZ cQ cJ : ClassId) (qv : Nat) (qo : Nat) (f : Nat → Int64) (rm : Room) (r : Int32) (Y : va_W) (Y' : va_W) (fs : List Value) (hrb : rb rm) (hM : sd_I l D (tyL cI cZ cQ) y_V_refresh b_V_refresh 5 .int rm [.ref qv] Y r Y') (hadr : Y'.map (fun q => q.1) = Y.map (fun q => q.1)) (he : Y[0]? = some (qv, .inr (4, fs))) : sd_H l D (tyJ cI cZ cQ cJ) y_L_refresh b_L_refresh 3 h_L_refresh ({ frames := 8, cells := rm.cells, slots := rm.slots, locals := 160 }) [.ref qv, .ref qo] ([(qo, .inl (cJ, 1, .inr (.inl (f))))] ++ (Y ++ [])) (0) ([(qo, .inl (cJ, 1, .inr (.inl (vp_updL (f) (0 : Int32).toNatClampNeg ((r).toInt64)))))] ++ (Y' ++ [])) := by
  obtain ⟨hrb1, hrb2, hrb3, hrb4⟩ := hrb
  refine sd_ofH (by decide) (Nat.le_of_ble_eq_true rfl) ?_
  intro p e s m below meth c A ls hx hb hr hml hlk hown hts hK hP hD hA hS hl hX hN htab
  have hl : lv_has ls 3 [(0, .ref qv), (1, .ref qo)] := hl
  refine lv_aload_n hx hb d_L_refresh_0 rfl (lv_at hl 1 rfl) ?_
  refine lv_iconst (v := 0) hx hb d_L_refresh_1 (by decide) ?_
  refine lv_aload_n hx hb d_L_refresh_2 rfl (lv_at hl 0 rfl) ?_
  refine md_VI (X := [(qo, .inl (cJ, 1, .inr (.inl (f))))]) (C := Y) (C' := Y') (Z := []) (As := []) (rest := [.int (0), .ref qo]) hM ⟨wc_V_refresh, wm_L_23, wi_V, by decide, by decide, show (parseMethodDescriptor y_V_refresh.desc).map (fun d => d.parameters.length) = some 0 by decide +kernel⟩ wo_V_refresh wz_V_refresh hx hb hml hown hts hl.1 ⟨by show rm.frames + 1 ≤ 8; omega, by show 8 + (5 + 11) + rm.locals ≤ 160; omega⟩ ⟨by show 0 + rm.cells ≤ rm.cells; omega, by show 0 + rm.slots ≤ rm.slots; omega⟩ (ty_J hK) hP hD hS hA hadr he rfl rfl (Nat.le_of_ble_eq_true rfl) d_L_refresh_3 (fun H locs hP hD hS => ?_)
  have hP : va_P D cls ([(qo, .inl (cJ, 1, .inr (.inl (f))))] ++ (Y' ++ [])) H := hP
  have hD : va_D A ([(qo, .inl (cJ, 1, .inr (.inl (f))))] ++ (Y' ++ [])) := hD
  refine lv_i2l hx hb d_L_refresh_6 rfl ?_
  refine va_last hx hb hK hP hD hS 0 3 rfl rfl (by unfold vp_in; decide) d_L_refresh_7 (fun H locs hP hD hS => ?_)
  have hP : va_P D cls ([(qo, .inl (cJ, 1, .inr (.inl (vp_updL (f) (0 : Int32).toNatClampNeg ((r).toInt64)))))] ++ (Y' ++ [])) H := hP
  have hD : va_D A ([(qo, .inl (cJ, 1, .inr (.inl (vp_updL (f) (0 : Int32).toNatClampNeg ((r).toInt64)))))] ++ (Y' ++ [])) := hD
  refine lv_goto (tgt := 17) hx hb d_L_refresh_8 rfl ?_
  refine lv_iconst (v := 0) hx hb d_L_refresh_17 (by decide) ?_
  exact sd_iret hx hb hr hlk hP hS (by show 0 + rm.cells ≤ rm.cells; omega) (by show 0 + rm.slots ≤ rm.slots; omega) (rfl) d_L_refresh_18
set_option maxHeartbeats 4000000 in
set_option maxRecDepth 100000 in
theorem c_L_refresh_x1 (l : Launch) (D : va_G) (cI cZ cQ cJ : ClassId) (qv : Nat) (qo : Nat) (f : Nat → Int64) (rm : Room) (Y : va_W) (Y' : va_W) (fs : List Value) (hrb : rb rm) (hM : sd_X l D (tyL cI cZ cQ) y_V_refresh b_V_refresh 5 (some .int) rm [.ref qv] Y "java/lang/IllegalStateException" Y') (hadr : Y'.map (fun q => q.1) = Y.map (fun q => q.1)) (he : Y[0]? = some (qv, .inr (4, fs))) : sd_H l D (tyJ cI cZ cQ cJ) y_L_refresh b_L_refresh 3 h_L_refresh ({ frames := 8, cells := rm.cells, slots := rm.slots, locals := 160 }) [.ref qv, .ref qo] ([(qo, .inl (cJ, 1, .inr (.inl (f))))] ++ (Y ++ [])) (1) ([(qo, .inl (cJ, 1, .inr (.inl (f))))] ++ (Y' ++ [])) := by
  obtain ⟨hrb1, hrb2, hrb3, hrb4⟩ := hrb
  refine sd_ofH (by decide) (Nat.le_of_ble_eq_true rfl) ?_
  intro p e s m below meth c A ls hx hb hr hml hlk hown hts hK hP hD hA hS hl hX hN htab
  have hl : lv_has ls 3 [(0, .ref qv), (1, .ref qo)] := hl
  refine lv_aload_n hx hb d_L_refresh_0 rfl (lv_at hl 1 rfl) ?_
  refine lv_iconst (v := 0) hx hb d_L_refresh_1 (by decide) ?_
  refine lv_aload_n hx hb d_L_refresh_2 rfl (lv_at hl 0 rfl) ?_
  refine md_VX (X := [(qo, .inl (cJ, 1, .inr (.inl (f))))]) (C := Y) (C' := Y') (Z := []) (As := []) (rest := [.int (0), .ref qo]) hM ⟨wc_V_refresh, wm_L_23, wi_V, by decide, by decide, show (parseMethodDescriptor y_V_refresh.desc).map (fun d => d.parameters.length) = some 0 by decide +kernel⟩ wo_V_refresh wz_V_refresh hx hb hml hown hts hl.1 ⟨by show rm.frames + 1 ≤ 8; omega, by show 8 + (5 + 11) + rm.locals ≤ 160; omega⟩ ⟨by show 0 + rm.cells ≤ rm.cells; omega, by show 0 + rm.slots ≤ rm.slots; omega⟩ (ty_J hK) hP hD hS hA hX hadr he rfl rfl (Nat.le_of_ble_eq_true rfl) d_L_refresh_3 [] ⟨0, 8, 11, 21⟩ [⟨0, 8, 14, 15⟩] htab (fun _ h9 => absurd h9 List.not_mem_nil) (by decide) (by decide) wk_L_21 (by decide) (fun q9 H locs hP hD hS => ?_)
  have hP : va_P D cls ([(qo, .inl (cJ, 1, .inr (.inl (f))))] ++ (Y' ++ [])) H := hP
  have hD : va_D A ([(qo, .inl (cJ, 1, .inr (.inl (f))))] ++ (Y' ++ [])) := hD
  refine lv_astore_n hx hb d_L_refresh_11 rfl hl (Nat.le_of_ble_eq_true rfl) (lv' := [(2, .ref q9), (0, .ref qv), (1, .ref qo)]) rfl (fun ls hl => ?_)
  refine lv_iconst (v := 1) hx hb d_L_refresh_12 (by decide) ?_
  exact sd_iret hx hb hr hlk hP hS (by show 0 + rm.cells ≤ rm.cells; omega) (by show 0 + rm.slots ≤ rm.slots; omega) (rfl) d_L_refresh_13
set_option maxHeartbeats 4000000 in
set_option maxRecDepth 100000 in
theorem c_L_refresh_x2 (l : Launch) (D : va_G) (cI cZ cQ cJ : ClassId) (qv : Nat) (qo : Nat) (f : Nat → Int64) (rm : Room) (Y : va_W) (Y' : va_W) (fs : List Value) (hrb : rb rm) (hM : sd_X l D (tyL cI cZ cQ) y_V_refresh b_V_refresh 5 (some .int) rm [.ref qv] Y "java/lang/UnsupportedOperationException" Y') (hadr : Y'.map (fun q => q.1) = Y.map (fun q => q.1)) (he : Y[0]? = some (qv, .inr (4, fs))) : sd_H l D (tyJ cI cZ cQ cJ) y_L_refresh b_L_refresh 3 h_L_refresh ({ frames := 8, cells := rm.cells, slots := rm.slots, locals := 160 }) [.ref qv, .ref qo] ([(qo, .inl (cJ, 1, .inr (.inl (f))))] ++ (Y ++ [])) (2) ([(qo, .inl (cJ, 1, .inr (.inl (f))))] ++ (Y' ++ [])) := by
  obtain ⟨hrb1, hrb2, hrb3, hrb4⟩ := hrb
  refine sd_ofH (by decide) (Nat.le_of_ble_eq_true rfl) ?_
  intro p e s m below meth c A ls hx hb hr hml hlk hown hts hK hP hD hA hS hl hX hN htab
  have hl : lv_has ls 3 [(0, .ref qv), (1, .ref qo)] := hl
  refine lv_aload_n hx hb d_L_refresh_0 rfl (lv_at hl 1 rfl) ?_
  refine lv_iconst (v := 0) hx hb d_L_refresh_1 (by decide) ?_
  refine lv_aload_n hx hb d_L_refresh_2 rfl (lv_at hl 0 rfl) ?_
  refine md_VX (X := [(qo, .inl (cJ, 1, .inr (.inl (f))))]) (C := Y) (C' := Y') (Z := []) (As := []) (rest := [.int (0), .ref qo]) hM ⟨wc_V_refresh, wm_L_23, wi_V, by decide, by decide, show (parseMethodDescriptor y_V_refresh.desc).map (fun d => d.parameters.length) = some 0 by decide +kernel⟩ wo_V_refresh wz_V_refresh hx hb hml hown hts hl.1 ⟨by show rm.frames + 1 ≤ 8; omega, by show 8 + (5 + 11) + rm.locals ≤ 160; omega⟩ ⟨by show 0 + rm.cells ≤ rm.cells; omega, by show 0 + rm.slots ≤ rm.slots; omega⟩ (ty_J hK) hP hD hS hA hX hadr he rfl rfl (Nat.le_of_ble_eq_true rfl) d_L_refresh_3 [⟨0, 8, 11, 21⟩] ⟨0, 8, 14, 15⟩ [] htab (List.forall_mem_cons.mpr ⟨Or.inr ⟨by decide, "java/lang/IllegalStateException", hts _ wk_L_21, hN ("java/lang/UnsupportedOperationException", "java/lang/IllegalStateException") (by decide)⟩, fun _ h9 => absurd h9 List.not_mem_nil⟩) (by decide) (by decide) wk_L_15 (by decide) (fun q9 H locs hP hD hS => ?_)
  have hP : va_P D cls ([(qo, .inl (cJ, 1, .inr (.inl (f))))] ++ (Y' ++ [])) H := hP
  have hD : va_D A ([(qo, .inl (cJ, 1, .inr (.inl (f))))] ++ (Y' ++ [])) := hD
  refine lv_astore_n hx hb d_L_refresh_14 rfl hl (Nat.le_of_ble_eq_true rfl) (lv' := [(2, .ref q9), (0, .ref qv), (1, .ref qo)]) rfl (fun ls hl => ?_)
  refine lv_iconst (v := 2) hx hb d_L_refresh_15 (by decide) ?_
  exact sd_iret hx hb hr hlk hP hS (by show 0 + rm.cells ≤ rm.cells; omega) (by show 0 + rm.slots ≤ rm.slots; omega) (rfl) d_L_refresh_16
set_option maxHeartbeats 4000000 in
set_option maxRecDepth 100000 in
theorem c_L_empty_y (l : Launch) (D : va_G) (cI cZ cQ cJ : ClassId) (qv : Nat) (qo : Nat) (x0 : Int32) (f : Nat → Int64) (rm : Room) (r : Int32) (Y : va_W) (Y' : va_W) (fs : List Value) (hrb : rb rm) (hM : sd_I l D (tyL cI cZ cQ) y_V_empty b_V_empty 2 .int rm [.ref qv, .int (x0)] Y r Y') (hadr : Y'.map (fun q => q.1) = Y.map (fun q => q.1)) (he : Y[0]? = some (qv, .inr (4, fs))) : sd_H l D (tyJ cI cZ cQ cJ) y_L_empty b_L_empty 4 h_L_empty ({ frames := 8, cells := rm.cells, slots := rm.slots, locals := 160 }) [.ref qv, .int (x0), .ref qo] ([(qo, .inl (cJ, 1, .inr (.inl (f))))] ++ (Y ++ [])) (0) ([(qo, .inl (cJ, 1, .inr (.inl (vp_updL (f) (0 : Int32).toNatClampNeg ((r).toInt64)))))] ++ (Y' ++ [])) := by
  obtain ⟨hrb1, hrb2, hrb3, hrb4⟩ := hrb
  refine sd_ofH (by decide) (Nat.le_of_ble_eq_true rfl) ?_
  intro p e s m below meth c A ls hx hb hr hml hlk hown hts hK hP hD hA hS hl hX hN htab
  have hl : lv_has ls 4 [(0, .ref qv), (1, .int (x0)), (2, .ref qo)] := hl
  refine lv_aload_n hx hb d_L_empty_0 rfl (lv_at hl 2 rfl) ?_
  refine lv_iconst (v := 0) hx hb d_L_empty_1 (by decide) ?_
  refine lv_aload_n hx hb d_L_empty_2 rfl (lv_at hl 0 rfl) ?_
  refine lv_iload_n hx hb d_L_empty_3 rfl (lv_at hl 1 rfl) ?_
  refine md_VI (X := [(qo, .inl (cJ, 1, .inr (.inl (f))))]) (C := Y) (C' := Y') (Z := []) (As := [.int (x0)]) (rest := [.int (0), .ref qo]) hM ⟨wc_V_empty, wm_L_27, wi_V, by decide, by decide, show (parseMethodDescriptor y_V_empty.desc).map (fun d => d.parameters.length) = some 1 by decide +kernel⟩ wo_V_empty wz_V_empty hx hb hml hown hts hl.1 ⟨by show rm.frames + 1 ≤ 8; omega, by show 8 + (2 + 11) + rm.locals ≤ 160; omega⟩ ⟨by show 0 + rm.cells ≤ rm.cells; omega, by show 0 + rm.slots ≤ rm.slots; omega⟩ (ty_J hK) hP hD hS hA hadr he rfl rfl (Nat.le_of_ble_eq_true rfl) d_L_empty_4 (fun H locs hP hD hS => ?_)
  have hP : va_P D cls ([(qo, .inl (cJ, 1, .inr (.inl (f))))] ++ (Y' ++ [])) H := hP
  have hD : va_D A ([(qo, .inl (cJ, 1, .inr (.inl (f))))] ++ (Y' ++ [])) := hD
  refine lv_i2l hx hb d_L_empty_7 rfl ?_
  refine va_last hx hb hK hP hD hS 0 3 rfl rfl (by unfold vp_in; decide) d_L_empty_8 (fun H locs hP hD hS => ?_)
  have hP : va_P D cls ([(qo, .inl (cJ, 1, .inr (.inl (vp_updL (f) (0 : Int32).toNatClampNeg ((r).toInt64)))))] ++ (Y' ++ [])) H := hP
  have hD : va_D A ([(qo, .inl (cJ, 1, .inr (.inl (vp_updL (f) (0 : Int32).toNatClampNeg ((r).toInt64)))))] ++ (Y' ++ [])) := hD
  refine lv_goto (tgt := 18) hx hb d_L_empty_9 rfl ?_
  refine lv_iconst (v := 0) hx hb d_L_empty_18 (by decide) ?_
  exact sd_iret hx hb hr hlk hP hS (by show 0 + rm.cells ≤ rm.cells; omega) (by show 0 + rm.slots ≤ rm.slots; omega) (rfl) d_L_empty_19
set_option maxHeartbeats 4000000 in
set_option maxRecDepth 100000 in
theorem c_L_empty_x1 (l : Launch) (D : va_G) (cI cZ cQ cJ : ClassId) (qv : Nat) (qo : Nat) (x0 : Int32) (f : Nat → Int64) (rm : Room) (Y : va_W) (Y' : va_W) (fs : List Value) (hrb : rb rm) (hM : sd_X l D (tyL cI cZ cQ) y_V_empty b_V_empty 2 (some .int) rm [.ref qv, .int (x0)] Y "java/lang/IllegalArgumentException" Y') (hadr : Y'.map (fun q => q.1) = Y.map (fun q => q.1)) (he : Y[0]? = some (qv, .inr (4, fs))) : sd_H l D (tyJ cI cZ cQ cJ) y_L_empty b_L_empty 4 h_L_empty ({ frames := 8, cells := rm.cells, slots := rm.slots, locals := 160 }) [.ref qv, .int (x0), .ref qo] ([(qo, .inl (cJ, 1, .inr (.inl (f))))] ++ (Y ++ [])) (1) ([(qo, .inl (cJ, 1, .inr (.inl (f))))] ++ (Y' ++ [])) := by
  obtain ⟨hrb1, hrb2, hrb3, hrb4⟩ := hrb
  refine sd_ofH (by decide) (Nat.le_of_ble_eq_true rfl) ?_
  intro p e s m below meth c A ls hx hb hr hml hlk hown hts hK hP hD hA hS hl hX hN htab
  have hl : lv_has ls 4 [(0, .ref qv), (1, .int (x0)), (2, .ref qo)] := hl
  refine lv_aload_n hx hb d_L_empty_0 rfl (lv_at hl 2 rfl) ?_
  refine lv_iconst (v := 0) hx hb d_L_empty_1 (by decide) ?_
  refine lv_aload_n hx hb d_L_empty_2 rfl (lv_at hl 0 rfl) ?_
  refine lv_iload_n hx hb d_L_empty_3 rfl (lv_at hl 1 rfl) ?_
  refine md_VX (X := [(qo, .inl (cJ, 1, .inr (.inl (f))))]) (C := Y) (C' := Y') (Z := []) (As := [.int (x0)]) (rest := [.int (0), .ref qo]) hM ⟨wc_V_empty, wm_L_27, wi_V, by decide, by decide, show (parseMethodDescriptor y_V_empty.desc).map (fun d => d.parameters.length) = some 1 by decide +kernel⟩ wo_V_empty wz_V_empty hx hb hml hown hts hl.1 ⟨by show rm.frames + 1 ≤ 8; omega, by show 8 + (2 + 11) + rm.locals ≤ 160; omega⟩ ⟨by show 0 + rm.cells ≤ rm.cells; omega, by show 0 + rm.slots ≤ rm.slots; omega⟩ (ty_J hK) hP hD hS hA hX hadr he rfl rfl (Nat.le_of_ble_eq_true rfl) d_L_empty_4 [] ⟨0, 9, 12, 13⟩ [⟨0, 9, 15, 21⟩] htab (fun _ h9 => absurd h9 List.not_mem_nil) (by decide) (by decide) wk_L_13 (by decide) (fun q9 H locs hP hD hS => ?_)
  have hP : va_P D cls ([(qo, .inl (cJ, 1, .inr (.inl (f))))] ++ (Y' ++ [])) H := hP
  have hD : va_D A ([(qo, .inl (cJ, 1, .inr (.inl (f))))] ++ (Y' ++ [])) := hD
  refine lv_astore_n hx hb d_L_empty_12 rfl hl (Nat.le_of_ble_eq_true rfl) (lv' := [(3, .ref q9), (0, .ref qv), (1, .int (x0)), (2, .ref qo)]) rfl (fun ls hl => ?_)
  refine lv_iconst (v := 1) hx hb d_L_empty_13 (by decide) ?_
  exact sd_iret hx hb hr hlk hP hS (by show 0 + rm.cells ≤ rm.cells; omega) (by show 0 + rm.slots ≤ rm.slots; omega) (rfl) d_L_empty_14
set_option maxHeartbeats 4000000 in
set_option maxRecDepth 100000 in
theorem c_L_empty_x2 (l : Launch) (D : va_G) (cI cZ cQ cJ : ClassId) (qv : Nat) (qo : Nat) (x0 : Int32) (f : Nat → Int64) (rm : Room) (Y : va_W) (Y' : va_W) (fs : List Value) (hrb : rb rm) (hM : sd_X l D (tyL cI cZ cQ) y_V_empty b_V_empty 2 (some .int) rm [.ref qv, .int (x0)] Y "java/lang/IllegalStateException" Y') (hadr : Y'.map (fun q => q.1) = Y.map (fun q => q.1)) (he : Y[0]? = some (qv, .inr (4, fs))) : sd_H l D (tyJ cI cZ cQ cJ) y_L_empty b_L_empty 4 h_L_empty ({ frames := 8, cells := rm.cells, slots := rm.slots, locals := 160 }) [.ref qv, .int (x0), .ref qo] ([(qo, .inl (cJ, 1, .inr (.inl (f))))] ++ (Y ++ [])) (2) ([(qo, .inl (cJ, 1, .inr (.inl (f))))] ++ (Y' ++ [])) := by
  obtain ⟨hrb1, hrb2, hrb3, hrb4⟩ := hrb
  refine sd_ofH (by decide) (Nat.le_of_ble_eq_true rfl) ?_
  intro p e s m below meth c A ls hx hb hr hml hlk hown hts hK hP hD hA hS hl hX hN htab
  have hl : lv_has ls 4 [(0, .ref qv), (1, .int (x0)), (2, .ref qo)] := hl
  refine lv_aload_n hx hb d_L_empty_0 rfl (lv_at hl 2 rfl) ?_
  refine lv_iconst (v := 0) hx hb d_L_empty_1 (by decide) ?_
  refine lv_aload_n hx hb d_L_empty_2 rfl (lv_at hl 0 rfl) ?_
  refine lv_iload_n hx hb d_L_empty_3 rfl (lv_at hl 1 rfl) ?_
  refine md_VX (X := [(qo, .inl (cJ, 1, .inr (.inl (f))))]) (C := Y) (C' := Y') (Z := []) (As := [.int (x0)]) (rest := [.int (0), .ref qo]) hM ⟨wc_V_empty, wm_L_27, wi_V, by decide, by decide, show (parseMethodDescriptor y_V_empty.desc).map (fun d => d.parameters.length) = some 1 by decide +kernel⟩ wo_V_empty wz_V_empty hx hb hml hown hts hl.1 ⟨by show rm.frames + 1 ≤ 8; omega, by show 8 + (2 + 11) + rm.locals ≤ 160; omega⟩ ⟨by show 0 + rm.cells ≤ rm.cells; omega, by show 0 + rm.slots ≤ rm.slots; omega⟩ (ty_J hK) hP hD hS hA hX hadr he rfl rfl (Nat.le_of_ble_eq_true rfl) d_L_empty_4 [⟨0, 9, 12, 13⟩] ⟨0, 9, 15, 21⟩ [] htab (List.forall_mem_cons.mpr ⟨Or.inr ⟨by decide, "java/lang/IllegalArgumentException", hts _ wk_L_13, hN ("java/lang/IllegalStateException", "java/lang/IllegalArgumentException") (by decide)⟩, fun _ h9 => absurd h9 List.not_mem_nil⟩) (by decide) (by decide) wk_L_21 (by decide) (fun q9 H locs hP hD hS => ?_)
  have hP : va_P D cls ([(qo, .inl (cJ, 1, .inr (.inl (f))))] ++ (Y' ++ [])) H := hP
  have hD : va_D A ([(qo, .inl (cJ, 1, .inr (.inl (f))))] ++ (Y' ++ [])) := hD
  refine lv_astore_n hx hb d_L_empty_15 rfl hl (Nat.le_of_ble_eq_true rfl) (lv' := [(3, .ref q9), (0, .ref qv), (1, .int (x0)), (2, .ref qo)]) rfl (fun ls hl => ?_)
  refine lv_iconst (v := 2) hx hb d_L_empty_16 (by decide) ?_
  exact sd_iret hx hb hr hlk hP hS (by show 0 + rm.cells ≤ rm.cells; omega) (by show 0 + rm.slots ≤ rm.slots; omega) (rfl) d_L_empty_17
set_option maxHeartbeats 4000000 in
set_option maxRecDepth 100000 in
theorem c_L_rebuild_y (l : Launch) (D : va_G) (cI cZ cQ cJ : ClassId) (qv : Nat) (qo : Nat) (x0 : Int32) (x1 : Int32) (f : Nat → Int64) (rm : Room) (r : Int32) (Y : va_W) (Y' : va_W) (fs : List Value) (hrb : rb rm) (hM : sd_I l D (tyL cI cZ cQ) y_V_rebuild b_V_rebuild 5 .int rm [.ref qv, .int (x0), .int (x1)] Y r Y') (hadr : Y'.map (fun q => q.1) = Y.map (fun q => q.1)) (he : Y[0]? = some (qv, .inr (4, fs))) : sd_H l D (tyJ cI cZ cQ cJ) y_L_rebuild b_L_rebuild 5 h_L_rebuild ({ frames := 8, cells := rm.cells, slots := rm.slots, locals := 160 }) [.ref qv, .int (x0), .int (x1), .ref qo] ([(qo, .inl (cJ, 1, .inr (.inl (f))))] ++ (Y ++ [])) (0) ([(qo, .inl (cJ, 1, .inr (.inl (vp_updL (f) (0 : Int32).toNatClampNeg ((r).toInt64)))))] ++ (Y' ++ [])) := by
  obtain ⟨hrb1, hrb2, hrb3, hrb4⟩ := hrb
  refine sd_ofH (by decide) (Nat.le_of_ble_eq_true rfl) ?_
  intro p e s m below meth c A ls hx hb hr hml hlk hown hts hK hP hD hA hS hl hX hN htab
  have hl : lv_has ls 5 [(0, .ref qv), (1, .int (x0)), (2, .int (x1)), (3, .ref qo)] := hl
  refine lv_aload_n hx hb d_L_rebuild_0 rfl (lv_at hl 3 rfl) ?_
  refine lv_iconst (v := 0) hx hb d_L_rebuild_1 (by decide) ?_
  refine lv_aload_n hx hb d_L_rebuild_2 rfl (lv_at hl 0 rfl) ?_
  refine lv_iload_n hx hb d_L_rebuild_3 rfl (lv_at hl 1 rfl) ?_
  refine lv_iload_n hx hb d_L_rebuild_4 rfl (lv_at hl 2 rfl) ?_
  refine md_VI (X := [(qo, .inl (cJ, 1, .inr (.inl (f))))]) (C := Y) (C' := Y') (Z := []) (As := [.int (x0), .int (x1)]) (rest := [.int (0), .ref qo]) hM ⟨wc_V_rebuild, wm_L_31, wi_V, by decide, by decide, show (parseMethodDescriptor y_V_rebuild.desc).map (fun d => d.parameters.length) = some 2 by decide +kernel⟩ wo_V_rebuild wz_V_rebuild hx hb hml hown hts hl.1 ⟨by show rm.frames + 1 ≤ 8; omega, by show 8 + (5 + 11) + rm.locals ≤ 160; omega⟩ ⟨by show 0 + rm.cells ≤ rm.cells; omega, by show 0 + rm.slots ≤ rm.slots; omega⟩ (ty_J hK) hP hD hS hA hadr he rfl rfl (Nat.le_of_ble_eq_true rfl) d_L_rebuild_5 (fun H locs hP hD hS => ?_)
  have hP : va_P D cls ([(qo, .inl (cJ, 1, .inr (.inl (f))))] ++ (Y' ++ [])) H := hP
  have hD : va_D A ([(qo, .inl (cJ, 1, .inr (.inl (f))))] ++ (Y' ++ [])) := hD
  refine lv_i2l hx hb d_L_rebuild_8 rfl ?_
  refine va_last hx hb hK hP hD hS 0 3 rfl rfl (by unfold vp_in; decide) d_L_rebuild_9 (fun H locs hP hD hS => ?_)
  have hP : va_P D cls ([(qo, .inl (cJ, 1, .inr (.inl (vp_updL (f) (0 : Int32).toNatClampNeg ((r).toInt64)))))] ++ (Y' ++ [])) H := hP
  have hD : va_D A ([(qo, .inl (cJ, 1, .inr (.inl (vp_updL (f) (0 : Int32).toNatClampNeg ((r).toInt64)))))] ++ (Y' ++ [])) := hD
  refine lv_goto (tgt := 25) hx hb d_L_rebuild_10 rfl ?_
  refine lv_iconst (v := 0) hx hb d_L_rebuild_25 (by decide) ?_
  exact sd_iret hx hb hr hlk hP hS (by show 0 + rm.cells ≤ rm.cells; omega) (by show 0 + rm.slots ≤ rm.slots; omega) (rfl) d_L_rebuild_26
set_option maxHeartbeats 4000000 in
set_option maxRecDepth 100000 in
theorem c_L_rebuild_x1 (l : Launch) (D : va_G) (cI cZ cQ cJ : ClassId) (qv : Nat) (qo : Nat) (x0 : Int32) (x1 : Int32) (f : Nat → Int64) (rm : Room) (Y : va_W) (Y' : va_W) (fs : List Value) (hrb : rb rm) (hM : sd_X l D (tyL cI cZ cQ) y_V_rebuild b_V_rebuild 5 (some .int) rm [.ref qv, .int (x0), .int (x1)] Y "java/lang/IllegalArgumentException" Y') (hadr : Y'.map (fun q => q.1) = Y.map (fun q => q.1)) (he : Y[0]? = some (qv, .inr (4, fs))) : sd_H l D (tyJ cI cZ cQ cJ) y_L_rebuild b_L_rebuild 5 h_L_rebuild ({ frames := 8, cells := rm.cells, slots := rm.slots, locals := 160 }) [.ref qv, .int (x0), .int (x1), .ref qo] ([(qo, .inl (cJ, 1, .inr (.inl (f))))] ++ (Y ++ [])) (1) ([(qo, .inl (cJ, 1, .inr (.inl (f))))] ++ (Y' ++ [])) := by
  obtain ⟨hrb1, hrb2, hrb3, hrb4⟩ := hrb
  refine sd_ofH (by decide) (Nat.le_of_ble_eq_true rfl) ?_
  intro p e s m below meth c A ls hx hb hr hml hlk hown hts hK hP hD hA hS hl hX hN htab
  have hl : lv_has ls 5 [(0, .ref qv), (1, .int (x0)), (2, .int (x1)), (3, .ref qo)] := hl
  refine lv_aload_n hx hb d_L_rebuild_0 rfl (lv_at hl 3 rfl) ?_
  refine lv_iconst (v := 0) hx hb d_L_rebuild_1 (by decide) ?_
  refine lv_aload_n hx hb d_L_rebuild_2 rfl (lv_at hl 0 rfl) ?_
  refine lv_iload_n hx hb d_L_rebuild_3 rfl (lv_at hl 1 rfl) ?_
  refine lv_iload_n hx hb d_L_rebuild_4 rfl (lv_at hl 2 rfl) ?_
  refine md_VX (X := [(qo, .inl (cJ, 1, .inr (.inl (f))))]) (C := Y) (C' := Y') (Z := []) (As := [.int (x0), .int (x1)]) (rest := [.int (0), .ref qo]) hM ⟨wc_V_rebuild, wm_L_31, wi_V, by decide, by decide, show (parseMethodDescriptor y_V_rebuild.desc).map (fun d => d.parameters.length) = some 2 by decide +kernel⟩ wo_V_rebuild wz_V_rebuild hx hb hml hown hts hl.1 ⟨by show rm.frames + 1 ≤ 8; omega, by show 8 + (5 + 11) + rm.locals ≤ 160; omega⟩ ⟨by show 0 + rm.cells ≤ rm.cells; omega, by show 0 + rm.slots ≤ rm.slots; omega⟩ (ty_J hK) hP hD hS hA hX hadr he rfl rfl (Nat.le_of_ble_eq_true rfl) d_L_rebuild_5 [] ⟨0, 10, 13, 13⟩ [⟨0, 10, 17, 21⟩, ⟨0, 10, 21, 15⟩] htab (fun _ h9 => absurd h9 List.not_mem_nil) (by decide) (by decide) wk_L_13 (by decide) (fun q9 H locs hP hD hS => ?_)
  have hP : va_P D cls ([(qo, .inl (cJ, 1, .inr (.inl (f))))] ++ (Y' ++ [])) H := hP
  have hD : va_D A ([(qo, .inl (cJ, 1, .inr (.inl (f))))] ++ (Y' ++ [])) := hD
  refine lv_astore hx hb d_L_rebuild_13 hl (Nat.le_of_ble_eq_true rfl) (lv' := [(4, .ref q9), (0, .ref qv), (1, .int (x0)), (2, .int (x1)), (3, .ref qo)]) rfl (fun ls hl => ?_)
  refine lv_iconst (v := 1) hx hb d_L_rebuild_15 (by decide) ?_
  exact sd_iret hx hb hr hlk hP hS (by show 0 + rm.cells ≤ rm.cells; omega) (by show 0 + rm.slots ≤ rm.slots; omega) (rfl) d_L_rebuild_16
set_option maxHeartbeats 4000000 in
set_option maxRecDepth 100000 in
theorem c_L_rebuild_x2 (l : Launch) (D : va_G) (cI cZ cQ cJ : ClassId) (qv : Nat) (qo : Nat) (x0 : Int32) (x1 : Int32) (f : Nat → Int64) (rm : Room) (Y : va_W) (Y' : va_W) (fs : List Value) (hrb : rb rm) (hM : sd_X l D (tyL cI cZ cQ) y_V_rebuild b_V_rebuild 5 (some .int) rm [.ref qv, .int (x0), .int (x1)] Y "java/lang/IllegalStateException" Y') (hadr : Y'.map (fun q => q.1) = Y.map (fun q => q.1)) (he : Y[0]? = some (qv, .inr (4, fs))) : sd_H l D (tyJ cI cZ cQ cJ) y_L_rebuild b_L_rebuild 5 h_L_rebuild ({ frames := 8, cells := rm.cells, slots := rm.slots, locals := 160 }) [.ref qv, .int (x0), .int (x1), .ref qo] ([(qo, .inl (cJ, 1, .inr (.inl (f))))] ++ (Y ++ [])) (2) ([(qo, .inl (cJ, 1, .inr (.inl (f))))] ++ (Y' ++ [])) := by
  obtain ⟨hrb1, hrb2, hrb3, hrb4⟩ := hrb
  refine sd_ofH (by decide) (Nat.le_of_ble_eq_true rfl) ?_
  intro p e s m below meth c A ls hx hb hr hml hlk hown hts hK hP hD hA hS hl hX hN htab
  have hl : lv_has ls 5 [(0, .ref qv), (1, .int (x0)), (2, .int (x1)), (3, .ref qo)] := hl
  refine lv_aload_n hx hb d_L_rebuild_0 rfl (lv_at hl 3 rfl) ?_
  refine lv_iconst (v := 0) hx hb d_L_rebuild_1 (by decide) ?_
  refine lv_aload_n hx hb d_L_rebuild_2 rfl (lv_at hl 0 rfl) ?_
  refine lv_iload_n hx hb d_L_rebuild_3 rfl (lv_at hl 1 rfl) ?_
  refine lv_iload_n hx hb d_L_rebuild_4 rfl (lv_at hl 2 rfl) ?_
  refine md_VX (X := [(qo, .inl (cJ, 1, .inr (.inl (f))))]) (C := Y) (C' := Y') (Z := []) (As := [.int (x0), .int (x1)]) (rest := [.int (0), .ref qo]) hM ⟨wc_V_rebuild, wm_L_31, wi_V, by decide, by decide, show (parseMethodDescriptor y_V_rebuild.desc).map (fun d => d.parameters.length) = some 2 by decide +kernel⟩ wo_V_rebuild wz_V_rebuild hx hb hml hown hts hl.1 ⟨by show rm.frames + 1 ≤ 8; omega, by show 8 + (5 + 11) + rm.locals ≤ 160; omega⟩ ⟨by show 0 + rm.cells ≤ rm.cells; omega, by show 0 + rm.slots ≤ rm.slots; omega⟩ (ty_J hK) hP hD hS hA hX hadr he rfl rfl (Nat.le_of_ble_eq_true rfl) d_L_rebuild_5 [⟨0, 10, 13, 13⟩] ⟨0, 10, 17, 21⟩ [⟨0, 10, 21, 15⟩] htab (List.forall_mem_cons.mpr ⟨Or.inr ⟨by decide, "java/lang/IllegalArgumentException", hts _ wk_L_13, hN ("java/lang/IllegalStateException", "java/lang/IllegalArgumentException") (by decide)⟩, fun _ h9 => absurd h9 List.not_mem_nil⟩) (by decide) (by decide) wk_L_21 (by decide) (fun q9 H locs hP hD hS => ?_)
  have hP : va_P D cls ([(qo, .inl (cJ, 1, .inr (.inl (f))))] ++ (Y' ++ [])) H := hP
  have hD : va_D A ([(qo, .inl (cJ, 1, .inr (.inl (f))))] ++ (Y' ++ [])) := hD
  refine lv_astore hx hb d_L_rebuild_17 hl (Nat.le_of_ble_eq_true rfl) (lv' := [(4, .ref q9), (0, .ref qv), (1, .int (x0)), (2, .int (x1)), (3, .ref qo)]) rfl (fun ls hl => ?_)
  refine lv_iconst (v := 2) hx hb d_L_rebuild_19 (by decide) ?_
  exact sd_iret hx hb hr hlk hP hS (by show 0 + rm.cells ≤ rm.cells; omega) (by show 0 + rm.slots ≤ rm.slots; omega) (rfl) d_L_rebuild_20
set_option maxHeartbeats 4000000 in
set_option maxRecDepth 100000 in
theorem c_L_rebuild_x3 (l : Launch) (D : va_G) (cI cZ cQ cJ : ClassId) (qv : Nat) (qo : Nat) (x0 : Int32) (x1 : Int32) (f : Nat → Int64) (rm : Room) (Y : va_W) (Y' : va_W) (fs : List Value) (hrb : rb rm) (hM : sd_X l D (tyL cI cZ cQ) y_V_rebuild b_V_rebuild 5 (some .int) rm [.ref qv, .int (x0), .int (x1)] Y "java/lang/UnsupportedOperationException" Y') (hadr : Y'.map (fun q => q.1) = Y.map (fun q => q.1)) (he : Y[0]? = some (qv, .inr (4, fs))) : sd_H l D (tyJ cI cZ cQ cJ) y_L_rebuild b_L_rebuild 5 h_L_rebuild ({ frames := 8, cells := rm.cells, slots := rm.slots, locals := 160 }) [.ref qv, .int (x0), .int (x1), .ref qo] ([(qo, .inl (cJ, 1, .inr (.inl (f))))] ++ (Y ++ [])) (3) ([(qo, .inl (cJ, 1, .inr (.inl (f))))] ++ (Y' ++ [])) := by
  obtain ⟨hrb1, hrb2, hrb3, hrb4⟩ := hrb
  refine sd_ofH (by decide) (Nat.le_of_ble_eq_true rfl) ?_
  intro p e s m below meth c A ls hx hb hr hml hlk hown hts hK hP hD hA hS hl hX hN htab
  have hl : lv_has ls 5 [(0, .ref qv), (1, .int (x0)), (2, .int (x1)), (3, .ref qo)] := hl
  refine lv_aload_n hx hb d_L_rebuild_0 rfl (lv_at hl 3 rfl) ?_
  refine lv_iconst (v := 0) hx hb d_L_rebuild_1 (by decide) ?_
  refine lv_aload_n hx hb d_L_rebuild_2 rfl (lv_at hl 0 rfl) ?_
  refine lv_iload_n hx hb d_L_rebuild_3 rfl (lv_at hl 1 rfl) ?_
  refine lv_iload_n hx hb d_L_rebuild_4 rfl (lv_at hl 2 rfl) ?_
  refine md_VX (X := [(qo, .inl (cJ, 1, .inr (.inl (f))))]) (C := Y) (C' := Y') (Z := []) (As := [.int (x0), .int (x1)]) (rest := [.int (0), .ref qo]) hM ⟨wc_V_rebuild, wm_L_31, wi_V, by decide, by decide, show (parseMethodDescriptor y_V_rebuild.desc).map (fun d => d.parameters.length) = some 2 by decide +kernel⟩ wo_V_rebuild wz_V_rebuild hx hb hml hown hts hl.1 ⟨by show rm.frames + 1 ≤ 8; omega, by show 8 + (5 + 11) + rm.locals ≤ 160; omega⟩ ⟨by show 0 + rm.cells ≤ rm.cells; omega, by show 0 + rm.slots ≤ rm.slots; omega⟩ (ty_J hK) hP hD hS hA hX hadr he rfl rfl (Nat.le_of_ble_eq_true rfl) d_L_rebuild_5 [⟨0, 10, 13, 13⟩, ⟨0, 10, 17, 21⟩] ⟨0, 10, 21, 15⟩ [] htab (List.forall_mem_cons.mpr ⟨Or.inr ⟨by decide, "java/lang/IllegalArgumentException", hts _ wk_L_13, hN ("java/lang/UnsupportedOperationException", "java/lang/IllegalArgumentException") (by decide)⟩, List.forall_mem_cons.mpr ⟨Or.inr ⟨by decide, "java/lang/IllegalStateException", hts _ wk_L_21, hN ("java/lang/UnsupportedOperationException", "java/lang/IllegalStateException") (by decide)⟩, fun _ h9 => absurd h9 List.not_mem_nil⟩⟩) (by decide) (by decide) wk_L_15 (by decide) (fun q9 H locs hP hD hS => ?_)
  have hP : va_P D cls ([(qo, .inl (cJ, 1, .inr (.inl (f))))] ++ (Y' ++ [])) H := hP
  have hD : va_D A ([(qo, .inl (cJ, 1, .inr (.inl (f))))] ++ (Y' ++ [])) := hD
  refine lv_astore hx hb d_L_rebuild_21 hl (Nat.le_of_ble_eq_true rfl) (lv' := [(4, .ref q9), (0, .ref qv), (1, .int (x0)), (2, .int (x1)), (3, .ref qo)]) rfl (fun ls hl => ?_)
  refine lv_iconst (v := 3) hx hb d_L_rebuild_23 (by decide) ?_
  exact sd_iret hx hb hr hlk hP hS (by show 0 + rm.cells ≤ rm.cells; omega) (by show 0 + rm.slots ≤ rm.slots; omega) (rfl) d_L_rebuild_24
set_option maxHeartbeats 4000000 in
set_option maxRecDepth 100000 in
theorem c_L_stopAfter_y (l : Launch) (D : va_G) (cI cZ cQ cJ : ClassId) (qv : Nat) (qo : Nat) (x0 : Int32) (f : Nat → Int64) (rm : Room) (Y : va_W) (Y' : va_W) (fs : List Value) (hrb : rb rm) (hM : sd_V l D (tyL cI cZ cQ) y_V_stopAfter b_V_stopAfter 2 rm [.ref qv, .int (x0)] Y Y') (hadr : Y'.map (fun q => q.1) = Y.map (fun q => q.1)) (he : Y[0]? = some (qv, .inr (4, fs))) : sd_H l D (tyJ cI cZ cQ cJ) y_L_stopAfter b_L_stopAfter 3 h_L_stopAfter ({ frames := 8, cells := rm.cells, slots := rm.slots, locals := 160 }) [.ref qv, .int (x0)] ([] ++ (Y ++ [])) (0) ([] ++ (Y' ++ [])) := by
  obtain ⟨hrb1, hrb2, hrb3, hrb4⟩ := hrb
  refine sd_ofH (by decide) (Nat.le_of_ble_eq_true rfl) ?_
  intro p e s m below meth c A ls hx hb hr hml hlk hown hts hK hP hD hA hS hl hX hN htab
  have hl : lv_has ls 3 [(0, .ref qv), (1, .int (x0))] := hl
  refine lv_aload_n hx hb d_L_stopAfter_0 rfl (lv_at hl 0 rfl) ?_
  refine lv_iload_n hx hb d_L_stopAfter_1 rfl (lv_at hl 1 rfl) ?_
  refine md_VV (X := []) (C := Y) (C' := Y') (Z := []) (As := [.int (x0)]) (rest := []) hM ⟨wc_V_stopAfter, wm_L_35, wi_V, by decide, by decide, show (parseMethodDescriptor y_V_stopAfter.desc).map (fun d => d.parameters.length) = some 1 by decide +kernel⟩ wo_V_stopAfter wz_V_stopAfter hx hb hml hown hts hl.1 ⟨by show rm.frames + 1 ≤ 8; omega, by show 8 + (2 + 11) + rm.locals ≤ 160; omega⟩ ⟨by show 0 + rm.cells ≤ rm.cells; omega, by show 0 + rm.slots ≤ rm.slots; omega⟩ (ty_J hK) hP hD hS hA hadr he rfl rfl (Nat.le_of_ble_eq_true rfl) d_L_stopAfter_2 (fun H locs hP hD hS => ?_)
  have hP : va_P D cls ([] ++ (Y' ++ [])) H := hP
  have hD : va_D A ([] ++ (Y' ++ [])) := hD
  refine lv_goto (tgt := 11) hx hb d_L_stopAfter_5 rfl ?_
  refine lv_iconst (v := 0) hx hb d_L_stopAfter_11 (by decide) ?_
  exact sd_iret hx hb hr hlk hP hS (by show 0 + rm.cells ≤ rm.cells; omega) (by show 0 + rm.slots ≤ rm.slots; omega) (rfl) d_L_stopAfter_12
set_option maxHeartbeats 4000000 in
set_option maxRecDepth 100000 in
theorem c_L_stopAfter_x1 (l : Launch) (D : va_G) (cI cZ cQ cJ : ClassId) (qv : Nat) (qo : Nat) (x0 : Int32) (f : Nat → Int64) (rm : Room) (Y : va_W) (Y' : va_W) (fs : List Value) (hrb : rb rm) (hM : sd_X l D (tyL cI cZ cQ) y_V_stopAfter b_V_stopAfter 2 none rm [.ref qv, .int (x0)] Y "java/lang/IllegalArgumentException" Y') (hadr : Y'.map (fun q => q.1) = Y.map (fun q => q.1)) (he : Y[0]? = some (qv, .inr (4, fs))) : sd_H l D (tyJ cI cZ cQ cJ) y_L_stopAfter b_L_stopAfter 3 h_L_stopAfter ({ frames := 8, cells := rm.cells, slots := rm.slots, locals := 160 }) [.ref qv, .int (x0)] ([] ++ (Y ++ [])) (1) ([] ++ (Y' ++ [])) := by
  obtain ⟨hrb1, hrb2, hrb3, hrb4⟩ := hrb
  refine sd_ofH (by decide) (Nat.le_of_ble_eq_true rfl) ?_
  intro p e s m below meth c A ls hx hb hr hml hlk hown hts hK hP hD hA hS hl hX hN htab
  have hl : lv_has ls 3 [(0, .ref qv), (1, .int (x0))] := hl
  refine lv_aload_n hx hb d_L_stopAfter_0 rfl (lv_at hl 0 rfl) ?_
  refine lv_iload_n hx hb d_L_stopAfter_1 rfl (lv_at hl 1 rfl) ?_
  refine md_VX (X := []) (C := Y) (C' := Y') (Z := []) (As := [.int (x0)]) (rest := []) hM ⟨wc_V_stopAfter, wm_L_35, wi_V, by decide, by decide, show (parseMethodDescriptor y_V_stopAfter.desc).map (fun d => d.parameters.length) = some 1 by decide +kernel⟩ wo_V_stopAfter wz_V_stopAfter hx hb hml hown hts hl.1 ⟨by show rm.frames + 1 ≤ 8; omega, by show 8 + (2 + 11) + rm.locals ≤ 160; omega⟩ ⟨by show 0 + rm.cells ≤ rm.cells; omega, by show 0 + rm.slots ≤ rm.slots; omega⟩ (ty_J hK) hP hD hS hA hX hadr he rfl rfl (Nat.le_of_ble_eq_true rfl) d_L_stopAfter_2 [] ⟨0, 5, 8, 13⟩ [] htab (fun _ h9 => absurd h9 List.not_mem_nil) (by decide) (by decide) wk_L_13 (by decide) (fun q9 H locs hP hD hS => ?_)
  have hP : va_P D cls ([] ++ (Y' ++ [])) H := hP
  have hD : va_D A ([] ++ (Y' ++ [])) := hD
  refine lv_astore_n hx hb d_L_stopAfter_8 rfl hl (Nat.le_of_ble_eq_true rfl) (lv' := [(2, .ref q9), (0, .ref qv), (1, .int (x0))]) rfl (fun ls hl => ?_)
  refine lv_iconst (v := 1) hx hb d_L_stopAfter_9 (by decide) ?_
  exact sd_iret hx hb hr hlk hP hS (by show 0 + rm.cells ≤ rm.cells; omega) (by show 0 + rm.slots ≤ rm.slots; omega) (rfl) d_L_stopAfter_10
set_option maxHeartbeats 4000000 in
set_option maxRecDepth 100000 in
theorem c_L_restore_y (l : Launch) (D : va_G) (cI cZ cQ cJ : ClassId) (qv : Nat) (qo : Nat) (x0 : Int32) (x1 : Int32) (f : Nat → Int64) (rm : Room) (r : Int64) (Y : va_W) (Y' : va_W) (fs : List Value) (hrb : rb rm) (hM : sd_J l D (tyL cI cZ cQ) y_V_restore b_V_restore 6 rm [.ref qv, .int (x0), .int (x1)] Y r Y') (hadr : Y'.map (fun q => q.1) = Y.map (fun q => q.1)) (he : Y[0]? = some (qv, .inr (4, fs))) : sd_H l D (tyJ cI cZ cQ cJ) y_L_restore b_L_restore 5 h_L_restore ({ frames := 8, cells := rm.cells, slots := rm.slots, locals := 160 }) [.ref qv, .int (x0), .int (x1), .ref qo] ([(qo, .inl (cJ, 1, .inr (.inl (f))))] ++ (Y ++ [])) (0) ([(qo, .inl (cJ, 1, .inr (.inl (vp_updL (f) (0 : Int32).toNatClampNeg (r)))))] ++ (Y' ++ [])) := by
  obtain ⟨hrb1, hrb2, hrb3, hrb4⟩ := hrb
  refine sd_ofH (by decide) (Nat.le_of_ble_eq_true rfl) ?_
  intro p e s m below meth c A ls hx hb hr hml hlk hown hts hK hP hD hA hS hl hX hN htab
  have hl : lv_has ls 5 [(0, .ref qv), (1, .int (x0)), (2, .int (x1)), (3, .ref qo)] := hl
  refine lv_aload_n hx hb d_L_restore_0 rfl (lv_at hl 3 rfl) ?_
  refine lv_iconst (v := 0) hx hb d_L_restore_1 (by decide) ?_
  refine lv_aload_n hx hb d_L_restore_2 rfl (lv_at hl 0 rfl) ?_
  refine lv_iload_n hx hb d_L_restore_3 rfl (lv_at hl 1 rfl) ?_
  refine lv_iload_n hx hb d_L_restore_4 rfl (lv_at hl 2 rfl) ?_
  refine md_VJ (X := [(qo, .inl (cJ, 1, .inr (.inl (f))))]) (C := Y) (C' := Y') (Z := []) (As := [.int (x0), .int (x1)]) (rest := [.int (0), .ref qo]) hM ⟨wc_V_restore, wm_L_39, wi_V, by decide, by decide, show (parseMethodDescriptor y_V_restore.desc).map (fun d => d.parameters.length) = some 2 by decide +kernel⟩ wo_V_restore wz_V_restore hx hb hml hown hts hl.1 ⟨by show rm.frames + 1 ≤ 8; omega, by show 8 + (6 + 11) + rm.locals ≤ 160; omega⟩ ⟨by show 0 + rm.cells ≤ rm.cells; omega, by show 0 + rm.slots ≤ rm.slots; omega⟩ (ty_J hK) hP hD hS hA hadr he rfl rfl (Nat.le_of_ble_eq_true rfl) d_L_restore_5 (fun H locs hP hD hS => ?_)
  have hP : va_P D cls ([(qo, .inl (cJ, 1, .inr (.inl (f))))] ++ (Y' ++ [])) H := hP
  have hD : va_D A ([(qo, .inl (cJ, 1, .inr (.inl (f))))] ++ (Y' ++ [])) := hD
  refine va_last hx hb hK hP hD hS 0 3 rfl rfl (by unfold vp_in; decide) d_L_restore_8 (fun H locs hP hD hS => ?_)
  have hP : va_P D cls ([(qo, .inl (cJ, 1, .inr (.inl (vp_updL (f) (0 : Int32).toNatClampNeg (r)))))] ++ (Y' ++ [])) H := hP
  have hD : va_D A ([(qo, .inl (cJ, 1, .inr (.inl (vp_updL (f) (0 : Int32).toNatClampNeg (r)))))] ++ (Y' ++ [])) := hD
  refine lv_goto (tgt := 24) hx hb d_L_restore_9 rfl ?_
  refine lv_iconst (v := 0) hx hb d_L_restore_24 (by decide) ?_
  exact sd_iret hx hb hr hlk hP hS (by show 0 + rm.cells ≤ rm.cells; omega) (by show 0 + rm.slots ≤ rm.slots; omega) (rfl) d_L_restore_25
set_option maxHeartbeats 4000000 in
set_option maxRecDepth 100000 in
theorem c_L_restore_x1 (l : Launch) (D : va_G) (cI cZ cQ cJ : ClassId) (qv : Nat) (qo : Nat) (x0 : Int32) (x1 : Int32) (f : Nat → Int64) (rm : Room) (Y : va_W) (Y' : va_W) (fs : List Value) (hrb : rb rm) (hM : sd_X l D (tyL cI cZ cQ) y_V_restore b_V_restore 6 (some .long) rm [.ref qv, .int (x0), .int (x1)] Y "java/lang/IllegalArgumentException" Y') (hadr : Y'.map (fun q => q.1) = Y.map (fun q => q.1)) (he : Y[0]? = some (qv, .inr (4, fs))) : sd_H l D (tyJ cI cZ cQ cJ) y_L_restore b_L_restore 5 h_L_restore ({ frames := 8, cells := rm.cells, slots := rm.slots, locals := 160 }) [.ref qv, .int (x0), .int (x1), .ref qo] ([(qo, .inl (cJ, 1, .inr (.inl (f))))] ++ (Y ++ [])) (1) ([(qo, .inl (cJ, 1, .inr (.inl (f))))] ++ (Y' ++ [])) := by
  obtain ⟨hrb1, hrb2, hrb3, hrb4⟩ := hrb
  refine sd_ofH (by decide) (Nat.le_of_ble_eq_true rfl) ?_
  intro p e s m below meth c A ls hx hb hr hml hlk hown hts hK hP hD hA hS hl hX hN htab
  have hl : lv_has ls 5 [(0, .ref qv), (1, .int (x0)), (2, .int (x1)), (3, .ref qo)] := hl
  refine lv_aload_n hx hb d_L_restore_0 rfl (lv_at hl 3 rfl) ?_
  refine lv_iconst (v := 0) hx hb d_L_restore_1 (by decide) ?_
  refine lv_aload_n hx hb d_L_restore_2 rfl (lv_at hl 0 rfl) ?_
  refine lv_iload_n hx hb d_L_restore_3 rfl (lv_at hl 1 rfl) ?_
  refine lv_iload_n hx hb d_L_restore_4 rfl (lv_at hl 2 rfl) ?_
  refine md_VX (X := [(qo, .inl (cJ, 1, .inr (.inl (f))))]) (C := Y) (C' := Y') (Z := []) (As := [.int (x0), .int (x1)]) (rest := [.int (0), .ref qo]) hM ⟨wc_V_restore, wm_L_39, wi_V, by decide, by decide, show (parseMethodDescriptor y_V_restore.desc).map (fun d => d.parameters.length) = some 2 by decide +kernel⟩ wo_V_restore wz_V_restore hx hb hml hown hts hl.1 ⟨by show rm.frames + 1 ≤ 8; omega, by show 8 + (6 + 11) + rm.locals ≤ 160; omega⟩ ⟨by show 0 + rm.cells ≤ rm.cells; omega, by show 0 + rm.slots ≤ rm.slots; omega⟩ (ty_J hK) hP hD hS hA hX hadr he rfl rfl (Nat.le_of_ble_eq_true rfl) d_L_restore_5 [] ⟨0, 9, 12, 13⟩ [⟨0, 9, 16, 43⟩, ⟨0, 9, 20, 21⟩] htab (fun _ h9 => absurd h9 List.not_mem_nil) (by decide) (by decide) wk_L_13 (by decide) (fun q9 H locs hP hD hS => ?_)
  have hP : va_P D cls ([(qo, .inl (cJ, 1, .inr (.inl (f))))] ++ (Y' ++ [])) H := hP
  have hD : va_D A ([(qo, .inl (cJ, 1, .inr (.inl (f))))] ++ (Y' ++ [])) := hD
  refine lv_astore hx hb d_L_restore_12 hl (Nat.le_of_ble_eq_true rfl) (lv' := [(4, .ref q9), (0, .ref qv), (1, .int (x0)), (2, .int (x1)), (3, .ref qo)]) rfl (fun ls hl => ?_)
  refine lv_iconst (v := 1) hx hb d_L_restore_14 (by decide) ?_
  exact sd_iret hx hb hr hlk hP hS (by show 0 + rm.cells ≤ rm.cells; omega) (by show 0 + rm.slots ≤ rm.slots; omega) (rfl) d_L_restore_15
set_option maxHeartbeats 4000000 in
set_option maxRecDepth 100000 in
theorem c_L_restore_x2 (l : Launch) (D : va_G) (cI cZ cQ cJ : ClassId) (qv : Nat) (qo : Nat) (x0 : Int32) (x1 : Int32) (f : Nat → Int64) (rm : Room) (Y : va_W) (Y' : va_W) (fs : List Value) (hrb : rb rm) (hM : sd_X l D (tyL cI cZ cQ) y_V_restore b_V_restore 6 (some .long) rm [.ref qv, .int (x0), .int (x1)] Y "java/util/NoSuchElementException" Y') (hadr : Y'.map (fun q => q.1) = Y.map (fun q => q.1)) (he : Y[0]? = some (qv, .inr (4, fs))) : sd_H l D (tyJ cI cZ cQ cJ) y_L_restore b_L_restore 5 h_L_restore ({ frames := 8, cells := rm.cells, slots := rm.slots, locals := 160 }) [.ref qv, .int (x0), .int (x1), .ref qo] ([(qo, .inl (cJ, 1, .inr (.inl (f))))] ++ (Y ++ [])) (2) ([(qo, .inl (cJ, 1, .inr (.inl (f))))] ++ (Y' ++ [])) := by
  obtain ⟨hrb1, hrb2, hrb3, hrb4⟩ := hrb
  refine sd_ofH (by decide) (Nat.le_of_ble_eq_true rfl) ?_
  intro p e s m below meth c A ls hx hb hr hml hlk hown hts hK hP hD hA hS hl hX hN htab
  have hl : lv_has ls 5 [(0, .ref qv), (1, .int (x0)), (2, .int (x1)), (3, .ref qo)] := hl
  refine lv_aload_n hx hb d_L_restore_0 rfl (lv_at hl 3 rfl) ?_
  refine lv_iconst (v := 0) hx hb d_L_restore_1 (by decide) ?_
  refine lv_aload_n hx hb d_L_restore_2 rfl (lv_at hl 0 rfl) ?_
  refine lv_iload_n hx hb d_L_restore_3 rfl (lv_at hl 1 rfl) ?_
  refine lv_iload_n hx hb d_L_restore_4 rfl (lv_at hl 2 rfl) ?_
  refine md_VX (X := [(qo, .inl (cJ, 1, .inr (.inl (f))))]) (C := Y) (C' := Y') (Z := []) (As := [.int (x0), .int (x1)]) (rest := [.int (0), .ref qo]) hM ⟨wc_V_restore, wm_L_39, wi_V, by decide, by decide, show (parseMethodDescriptor y_V_restore.desc).map (fun d => d.parameters.length) = some 2 by decide +kernel⟩ wo_V_restore wz_V_restore hx hb hml hown hts hl.1 ⟨by show rm.frames + 1 ≤ 8; omega, by show 8 + (6 + 11) + rm.locals ≤ 160; omega⟩ ⟨by show 0 + rm.cells ≤ rm.cells; omega, by show 0 + rm.slots ≤ rm.slots; omega⟩ (ty_J hK) hP hD hS hA hX hadr he rfl rfl (Nat.le_of_ble_eq_true rfl) d_L_restore_5 [⟨0, 9, 12, 13⟩] ⟨0, 9, 16, 43⟩ [⟨0, 9, 20, 21⟩] htab (List.forall_mem_cons.mpr ⟨Or.inr ⟨by decide, "java/lang/IllegalArgumentException", hts _ wk_L_13, hN ("java/util/NoSuchElementException", "java/lang/IllegalArgumentException") (by decide)⟩, fun _ h9 => absurd h9 List.not_mem_nil⟩) (by decide) (by decide) wk_L_43 (by decide) (fun q9 H locs hP hD hS => ?_)
  have hP : va_P D cls ([(qo, .inl (cJ, 1, .inr (.inl (f))))] ++ (Y' ++ [])) H := hP
  have hD : va_D A ([(qo, .inl (cJ, 1, .inr (.inl (f))))] ++ (Y' ++ [])) := hD
  refine lv_astore hx hb d_L_restore_16 hl (Nat.le_of_ble_eq_true rfl) (lv' := [(4, .ref q9), (0, .ref qv), (1, .int (x0)), (2, .int (x1)), (3, .ref qo)]) rfl (fun ls hl => ?_)
  refine lv_iconst (v := 2) hx hb d_L_restore_18 (by decide) ?_
  exact sd_iret hx hb hr hlk hP hS (by show 0 + rm.cells ≤ rm.cells; omega) (by show 0 + rm.slots ≤ rm.slots; omega) (rfl) d_L_restore_19
set_option maxHeartbeats 4000000 in
set_option maxRecDepth 100000 in
theorem c_L_restore_x3 (l : Launch) (D : va_G) (cI cZ cQ cJ : ClassId) (qv : Nat) (qo : Nat) (x0 : Int32) (x1 : Int32) (f : Nat → Int64) (rm : Room) (Y : va_W) (Y' : va_W) (fs : List Value) (hrb : rb rm) (hM : sd_X l D (tyL cI cZ cQ) y_V_restore b_V_restore 6 (some .long) rm [.ref qv, .int (x0), .int (x1)] Y "java/lang/IllegalStateException" Y') (hadr : Y'.map (fun q => q.1) = Y.map (fun q => q.1)) (he : Y[0]? = some (qv, .inr (4, fs))) : sd_H l D (tyJ cI cZ cQ cJ) y_L_restore b_L_restore 5 h_L_restore ({ frames := 8, cells := rm.cells, slots := rm.slots, locals := 160 }) [.ref qv, .int (x0), .int (x1), .ref qo] ([(qo, .inl (cJ, 1, .inr (.inl (f))))] ++ (Y ++ [])) (3) ([(qo, .inl (cJ, 1, .inr (.inl (f))))] ++ (Y' ++ [])) := by
  obtain ⟨hrb1, hrb2, hrb3, hrb4⟩ := hrb
  refine sd_ofH (by decide) (Nat.le_of_ble_eq_true rfl) ?_
  intro p e s m below meth c A ls hx hb hr hml hlk hown hts hK hP hD hA hS hl hX hN htab
  have hl : lv_has ls 5 [(0, .ref qv), (1, .int (x0)), (2, .int (x1)), (3, .ref qo)] := hl
  refine lv_aload_n hx hb d_L_restore_0 rfl (lv_at hl 3 rfl) ?_
  refine lv_iconst (v := 0) hx hb d_L_restore_1 (by decide) ?_
  refine lv_aload_n hx hb d_L_restore_2 rfl (lv_at hl 0 rfl) ?_
  refine lv_iload_n hx hb d_L_restore_3 rfl (lv_at hl 1 rfl) ?_
  refine lv_iload_n hx hb d_L_restore_4 rfl (lv_at hl 2 rfl) ?_
  refine md_VX (X := [(qo, .inl (cJ, 1, .inr (.inl (f))))]) (C := Y) (C' := Y') (Z := []) (As := [.int (x0), .int (x1)]) (rest := [.int (0), .ref qo]) hM ⟨wc_V_restore, wm_L_39, wi_V, by decide, by decide, show (parseMethodDescriptor y_V_restore.desc).map (fun d => d.parameters.length) = some 2 by decide +kernel⟩ wo_V_restore wz_V_restore hx hb hml hown hts hl.1 ⟨by show rm.frames + 1 ≤ 8; omega, by show 8 + (6 + 11) + rm.locals ≤ 160; omega⟩ ⟨by show 0 + rm.cells ≤ rm.cells; omega, by show 0 + rm.slots ≤ rm.slots; omega⟩ (ty_J hK) hP hD hS hA hX hadr he rfl rfl (Nat.le_of_ble_eq_true rfl) d_L_restore_5 [⟨0, 9, 12, 13⟩, ⟨0, 9, 16, 43⟩] ⟨0, 9, 20, 21⟩ [] htab (List.forall_mem_cons.mpr ⟨Or.inr ⟨by decide, "java/lang/IllegalArgumentException", hts _ wk_L_13, hN ("java/lang/IllegalStateException", "java/lang/IllegalArgumentException") (by decide)⟩, List.forall_mem_cons.mpr ⟨Or.inr ⟨by decide, "java/util/NoSuchElementException", hts _ wk_L_43, hN ("java/lang/IllegalStateException", "java/util/NoSuchElementException") (by decide)⟩, fun _ h9 => absurd h9 List.not_mem_nil⟩⟩) (by decide) (by decide) wk_L_21 (by decide) (fun q9 H locs hP hD hS => ?_)
  have hP : va_P D cls ([(qo, .inl (cJ, 1, .inr (.inl (f))))] ++ (Y' ++ [])) H := hP
  have hD : va_D A ([(qo, .inl (cJ, 1, .inr (.inl (f))))] ++ (Y' ++ [])) := hD
  refine lv_astore hx hb d_L_restore_20 hl (Nat.le_of_ble_eq_true rfl) (lv' := [(4, .ref q9), (0, .ref qv), (1, .int (x0)), (2, .int (x1)), (3, .ref qo)]) rfl (fun ls hl => ?_)
  refine lv_iconst (v := 3) hx hb d_L_restore_22 (by decide) ?_
  exact sd_iret hx hb hr hlk hP hS (by show 0 + rm.cells ≤ rm.cells; omega) (by show 0 + rm.slots ≤ rm.slots; omega) (rfl) d_L_restore_23
set_option maxHeartbeats 4000000 in
set_option maxRecDepth 100000 in
theorem c_L_length_y (l : Launch) (D : va_G) (cI cZ cQ cJ : ClassId) (qv : Nat) (qo : Nat) (x0 : Int32) (f : Nat → Int64) (rm : Room) (r : Int32) (Y : va_W) (Y' : va_W) (fs : List Value) (hrb : rb rm) (hM : sd_I l D (tyL cI cZ cQ) y_V_length b_V_length 2 .int rm [.ref qv, .int (x0)] Y r Y') (hadr : Y'.map (fun q => q.1) = Y.map (fun q => q.1)) (he : Y[0]? = some (qv, .inr (4, fs))) : sd_H l D (tyJ cI cZ cQ cJ) y_L_length b_L_length 4 h_L_length ({ frames := 8, cells := rm.cells, slots := rm.slots, locals := 160 }) [.ref qv, .int (x0), .ref qo] ([(qo, .inl (cJ, 1, .inr (.inl (f))))] ++ (Y ++ [])) (0) ([(qo, .inl (cJ, 1, .inr (.inl (vp_updL (f) (0 : Int32).toNatClampNeg ((r).toInt64)))))] ++ (Y' ++ [])) := by
  obtain ⟨hrb1, hrb2, hrb3, hrb4⟩ := hrb
  refine sd_ofH (by decide) (Nat.le_of_ble_eq_true rfl) ?_
  intro p e s m below meth c A ls hx hb hr hml hlk hown hts hK hP hD hA hS hl hX hN htab
  have hl : lv_has ls 4 [(0, .ref qv), (1, .int (x0)), (2, .ref qo)] := hl
  refine lv_aload_n hx hb d_L_length_0 rfl (lv_at hl 2 rfl) ?_
  refine lv_iconst (v := 0) hx hb d_L_length_1 (by decide) ?_
  refine lv_aload_n hx hb d_L_length_2 rfl (lv_at hl 0 rfl) ?_
  refine lv_iload_n hx hb d_L_length_3 rfl (lv_at hl 1 rfl) ?_
  refine md_VI (X := [(qo, .inl (cJ, 1, .inr (.inl (f))))]) (C := Y) (C' := Y') (Z := []) (As := [.int (x0)]) (rest := [.int (0), .ref qo]) hM ⟨wc_V_length, wm_L_45, wi_V, by decide, by decide, show (parseMethodDescriptor y_V_length.desc).map (fun d => d.parameters.length) = some 1 by decide +kernel⟩ wo_V_length wz_V_length hx hb hml hown hts hl.1 ⟨by show rm.frames + 1 ≤ 8; omega, by show 8 + (2 + 11) + rm.locals ≤ 160; omega⟩ ⟨by show 0 + rm.cells ≤ rm.cells; omega, by show 0 + rm.slots ≤ rm.slots; omega⟩ (ty_J hK) hP hD hS hA hadr he rfl rfl (Nat.le_of_ble_eq_true rfl) d_L_length_4 (fun H locs hP hD hS => ?_)
  have hP : va_P D cls ([(qo, .inl (cJ, 1, .inr (.inl (f))))] ++ (Y' ++ [])) H := hP
  have hD : va_D A ([(qo, .inl (cJ, 1, .inr (.inl (f))))] ++ (Y' ++ [])) := hD
  refine lv_i2l hx hb d_L_length_7 rfl ?_
  refine va_last hx hb hK hP hD hS 0 3 rfl rfl (by unfold vp_in; decide) d_L_length_8 (fun H locs hP hD hS => ?_)
  have hP : va_P D cls ([(qo, .inl (cJ, 1, .inr (.inl (vp_updL (f) (0 : Int32).toNatClampNeg ((r).toInt64)))))] ++ (Y' ++ [])) H := hP
  have hD : va_D A ([(qo, .inl (cJ, 1, .inr (.inl (vp_updL (f) (0 : Int32).toNatClampNeg ((r).toInt64)))))] ++ (Y' ++ [])) := hD
  refine lv_goto (tgt := 15) hx hb d_L_length_9 rfl ?_
  refine lv_iconst (v := 0) hx hb d_L_length_15 (by decide) ?_
  exact sd_iret hx hb hr hlk hP hS (by show 0 + rm.cells ≤ rm.cells; omega) (by show 0 + rm.slots ≤ rm.slots; omega) (rfl) d_L_length_16
set_option maxHeartbeats 4000000 in
set_option maxRecDepth 100000 in
theorem c_L_length_x1 (l : Launch) (D : va_G) (cI cZ cQ cJ : ClassId) (qv : Nat) (qo : Nat) (x0 : Int32) (f : Nat → Int64) (rm : Room) (Y : va_W) (Y' : va_W) (fs : List Value) (hrb : rb rm) (hM : sd_X l D (tyL cI cZ cQ) y_V_length b_V_length 2 (some .int) rm [.ref qv, .int (x0)] Y "java/lang/IllegalArgumentException" Y') (hadr : Y'.map (fun q => q.1) = Y.map (fun q => q.1)) (he : Y[0]? = some (qv, .inr (4, fs))) : sd_H l D (tyJ cI cZ cQ cJ) y_L_length b_L_length 4 h_L_length ({ frames := 8, cells := rm.cells, slots := rm.slots, locals := 160 }) [.ref qv, .int (x0), .ref qo] ([(qo, .inl (cJ, 1, .inr (.inl (f))))] ++ (Y ++ [])) (1) ([(qo, .inl (cJ, 1, .inr (.inl (f))))] ++ (Y' ++ [])) := by
  obtain ⟨hrb1, hrb2, hrb3, hrb4⟩ := hrb
  refine sd_ofH (by decide) (Nat.le_of_ble_eq_true rfl) ?_
  intro p e s m below meth c A ls hx hb hr hml hlk hown hts hK hP hD hA hS hl hX hN htab
  have hl : lv_has ls 4 [(0, .ref qv), (1, .int (x0)), (2, .ref qo)] := hl
  refine lv_aload_n hx hb d_L_length_0 rfl (lv_at hl 2 rfl) ?_
  refine lv_iconst (v := 0) hx hb d_L_length_1 (by decide) ?_
  refine lv_aload_n hx hb d_L_length_2 rfl (lv_at hl 0 rfl) ?_
  refine lv_iload_n hx hb d_L_length_3 rfl (lv_at hl 1 rfl) ?_
  refine md_VX (X := [(qo, .inl (cJ, 1, .inr (.inl (f))))]) (C := Y) (C' := Y') (Z := []) (As := [.int (x0)]) (rest := [.int (0), .ref qo]) hM ⟨wc_V_length, wm_L_45, wi_V, by decide, by decide, show (parseMethodDescriptor y_V_length.desc).map (fun d => d.parameters.length) = some 1 by decide +kernel⟩ wo_V_length wz_V_length hx hb hml hown hts hl.1 ⟨by show rm.frames + 1 ≤ 8; omega, by show 8 + (2 + 11) + rm.locals ≤ 160; omega⟩ ⟨by show 0 + rm.cells ≤ rm.cells; omega, by show 0 + rm.slots ≤ rm.slots; omega⟩ (ty_J hK) hP hD hS hA hX hadr he rfl rfl (Nat.le_of_ble_eq_true rfl) d_L_length_4 [] ⟨0, 9, 12, 13⟩ [] htab (fun _ h9 => absurd h9 List.not_mem_nil) (by decide) (by decide) wk_L_13 (by decide) (fun q9 H locs hP hD hS => ?_)
  have hP : va_P D cls ([(qo, .inl (cJ, 1, .inr (.inl (f))))] ++ (Y' ++ [])) H := hP
  have hD : va_D A ([(qo, .inl (cJ, 1, .inr (.inl (f))))] ++ (Y' ++ [])) := hD
  refine lv_astore_n hx hb d_L_length_12 rfl hl (Nat.le_of_ble_eq_true rfl) (lv' := [(3, .ref q9), (0, .ref qv), (1, .int (x0)), (2, .ref qo)]) rfl (fun ls hl => ?_)
  refine lv_iconst (v := 1) hx hb d_L_length_13 (by decide) ?_
  exact sd_iret hx hb hr hlk hP hS (by show 0 + rm.cells ≤ rm.cells; omega) (by show 0 + rm.slots ≤ rm.slots; omega) (rfl) d_L_length_14
set_option maxHeartbeats 4000000 in
set_option maxRecDepth 100000 in
theorem c_L_share_y (l : Launch) (D : va_G) (cI cZ cQ cJ : ClassId) (qv : Nat) (qo : Nat) (x0 : Int32) (x1 : Int32) (x2 : Int32) (f : Nat → Int64) (rm : Room) (r : Int32) (Y : va_W) (Y' : va_W) (fs : List Value) (hrb : rb rm) (hM : sd_I l D (tyL cI cZ cQ) y_V_share b_V_share 4 .int rm [.ref qv, .int (x0), .int (x1), .int (x2)] Y r Y') (hadr : Y'.map (fun q => q.1) = Y.map (fun q => q.1)) (he : Y[0]? = some (qv, .inr (4, fs))) : sd_H l D (tyJ cI cZ cQ cJ) y_L_share b_L_share 6 h_L_share ({ frames := 8, cells := rm.cells, slots := rm.slots, locals := 160 }) [.ref qv, .int (x0), .int (x1), .int (x2), .ref qo] ([(qo, .inl (cJ, 1, .inr (.inl (f))))] ++ (Y ++ [])) (0) ([(qo, .inl (cJ, 1, .inr (.inl (vp_updL (f) (0 : Int32).toNatClampNeg ((r).toInt64)))))] ++ (Y' ++ [])) := by
  obtain ⟨hrb1, hrb2, hrb3, hrb4⟩ := hrb
  refine sd_ofH (by decide) (Nat.le_of_ble_eq_true rfl) ?_
  intro p e s m below meth c A ls hx hb hr hml hlk hown hts hK hP hD hA hS hl hX hN htab
  have hl : lv_has ls 6 [(0, .ref qv), (1, .int (x0)), (2, .int (x1)), (3, .int (x2)), (4, .ref qo)] := hl
  refine lv_aload hx hb d_L_share_0 (lv_at hl 4 rfl) ?_
  refine lv_iconst (v := 0) hx hb d_L_share_2 (by decide) ?_
  refine lv_aload_n hx hb d_L_share_3 rfl (lv_at hl 0 rfl) ?_
  refine lv_iload_n hx hb d_L_share_4 rfl (lv_at hl 1 rfl) ?_
  refine lv_iload_n hx hb d_L_share_5 rfl (lv_at hl 2 rfl) ?_
  refine lv_iload_n hx hb d_L_share_6 rfl (lv_at hl 3 rfl) ?_
  refine md_VI (X := [(qo, .inl (cJ, 1, .inr (.inl (f))))]) (C := Y) (C' := Y') (Z := []) (As := [.int (x0), .int (x1), .int (x2)]) (rest := [.int (0), .ref qo]) hM ⟨wc_V_share, wm_L_48, wi_V, by decide, by decide, show (parseMethodDescriptor y_V_share.desc).map (fun d => d.parameters.length) = some 3 by decide +kernel⟩ wo_V_share wz_V_share hx hb hml hown hts hl.1 ⟨by show rm.frames + 1 ≤ 8; omega, by show 8 + (4 + 11) + rm.locals ≤ 160; omega⟩ ⟨by show 0 + rm.cells ≤ rm.cells; omega, by show 0 + rm.slots ≤ rm.slots; omega⟩ (ty_J hK) hP hD hS hA hadr he rfl rfl (Nat.le_of_ble_eq_true rfl) d_L_share_7 (fun H locs hP hD hS => ?_)
  have hP : va_P D cls ([(qo, .inl (cJ, 1, .inr (.inl (f))))] ++ (Y' ++ [])) H := hP
  have hD : va_D A ([(qo, .inl (cJ, 1, .inr (.inl (f))))] ++ (Y' ++ [])) := hD
  refine lv_i2l hx hb d_L_share_10 rfl ?_
  refine va_last hx hb hK hP hD hS 0 3 rfl rfl (by unfold vp_in; decide) d_L_share_11 (fun H locs hP hD hS => ?_)
  have hP : va_P D cls ([(qo, .inl (cJ, 1, .inr (.inl (vp_updL (f) (0 : Int32).toNatClampNeg ((r).toInt64)))))] ++ (Y' ++ [])) H := hP
  have hD : va_D A ([(qo, .inl (cJ, 1, .inr (.inl (vp_updL (f) (0 : Int32).toNatClampNeg ((r).toInt64)))))] ++ (Y' ++ [])) := hD
  refine lv_goto (tgt := 27) hx hb d_L_share_12 rfl ?_
  refine lv_iconst (v := 0) hx hb d_L_share_27 (by decide) ?_
  exact sd_iret hx hb hr hlk hP hS (by show 0 + rm.cells ≤ rm.cells; omega) (by show 0 + rm.slots ≤ rm.slots; omega) (rfl) d_L_share_28
set_option maxHeartbeats 4000000 in
set_option maxRecDepth 100000 in
theorem c_L_share_x1 (l : Launch) (D : va_G) (cI cZ cQ cJ : ClassId) (qv : Nat) (qo : Nat) (x0 : Int32) (x1 : Int32) (x2 : Int32) (f : Nat → Int64) (rm : Room) (Y : va_W) (Y' : va_W) (fs : List Value) (hrb : rb rm) (hM : sd_X l D (tyL cI cZ cQ) y_V_share b_V_share 4 (some .int) rm [.ref qv, .int (x0), .int (x1), .int (x2)] Y "java/lang/IllegalArgumentException" Y') (hadr : Y'.map (fun q => q.1) = Y.map (fun q => q.1)) (he : Y[0]? = some (qv, .inr (4, fs))) : sd_H l D (tyJ cI cZ cQ cJ) y_L_share b_L_share 6 h_L_share ({ frames := 8, cells := rm.cells, slots := rm.slots, locals := 160 }) [.ref qv, .int (x0), .int (x1), .int (x2), .ref qo] ([(qo, .inl (cJ, 1, .inr (.inl (f))))] ++ (Y ++ [])) (1) ([(qo, .inl (cJ, 1, .inr (.inl (f))))] ++ (Y' ++ [])) := by
  obtain ⟨hrb1, hrb2, hrb3, hrb4⟩ := hrb
  refine sd_ofH (by decide) (Nat.le_of_ble_eq_true rfl) ?_
  intro p e s m below meth c A ls hx hb hr hml hlk hown hts hK hP hD hA hS hl hX hN htab
  have hl : lv_has ls 6 [(0, .ref qv), (1, .int (x0)), (2, .int (x1)), (3, .int (x2)), (4, .ref qo)] := hl
  refine lv_aload hx hb d_L_share_0 (lv_at hl 4 rfl) ?_
  refine lv_iconst (v := 0) hx hb d_L_share_2 (by decide) ?_
  refine lv_aload_n hx hb d_L_share_3 rfl (lv_at hl 0 rfl) ?_
  refine lv_iload_n hx hb d_L_share_4 rfl (lv_at hl 1 rfl) ?_
  refine lv_iload_n hx hb d_L_share_5 rfl (lv_at hl 2 rfl) ?_
  refine lv_iload_n hx hb d_L_share_6 rfl (lv_at hl 3 rfl) ?_
  refine md_VX (X := [(qo, .inl (cJ, 1, .inr (.inl (f))))]) (C := Y) (C' := Y') (Z := []) (As := [.int (x0), .int (x1), .int (x2)]) (rest := [.int (0), .ref qo]) hM ⟨wc_V_share, wm_L_48, wi_V, by decide, by decide, show (parseMethodDescriptor y_V_share.desc).map (fun d => d.parameters.length) = some 3 by decide +kernel⟩ wo_V_share wz_V_share hx hb hml hown hts hl.1 ⟨by show rm.frames + 1 ≤ 8; omega, by show 8 + (4 + 11) + rm.locals ≤ 160; omega⟩ ⟨by show 0 + rm.cells ≤ rm.cells; omega, by show 0 + rm.slots ≤ rm.slots; omega⟩ (ty_J hK) hP hD hS hA hX hadr he rfl rfl (Nat.le_of_ble_eq_true rfl) d_L_share_7 [] ⟨0, 12, 15, 13⟩ [⟨0, 12, 19, 43⟩, ⟨0, 12, 23, 52⟩] htab (fun _ h9 => absurd h9 List.not_mem_nil) (by decide) (by decide) wk_L_13 (by decide) (fun q9 H locs hP hD hS => ?_)
  have hP : va_P D cls ([(qo, .inl (cJ, 1, .inr (.inl (f))))] ++ (Y' ++ [])) H := hP
  have hD : va_D A ([(qo, .inl (cJ, 1, .inr (.inl (f))))] ++ (Y' ++ [])) := hD
  refine lv_astore hx hb d_L_share_15 hl (Nat.le_of_ble_eq_true rfl) (lv' := [(5, .ref q9), (0, .ref qv), (1, .int (x0)), (2, .int (x1)), (3, .int (x2)), (4, .ref qo)]) rfl (fun ls hl => ?_)
  refine lv_iconst (v := 1) hx hb d_L_share_17 (by decide) ?_
  exact sd_iret hx hb hr hlk hP hS (by show 0 + rm.cells ≤ rm.cells; omega) (by show 0 + rm.slots ≤ rm.slots; omega) (rfl) d_L_share_18
set_option maxHeartbeats 4000000 in
set_option maxRecDepth 100000 in
theorem c_L_share_x2 (l : Launch) (D : va_G) (cI cZ cQ cJ : ClassId) (qv : Nat) (qo : Nat) (x0 : Int32) (x1 : Int32) (x2 : Int32) (f : Nat → Int64) (rm : Room) (Y : va_W) (Y' : va_W) (fs : List Value) (hrb : rb rm) (hM : sd_X l D (tyL cI cZ cQ) y_V_share b_V_share 4 (some .int) rm [.ref qv, .int (x0), .int (x1), .int (x2)] Y "java/util/NoSuchElementException" Y') (hadr : Y'.map (fun q => q.1) = Y.map (fun q => q.1)) (he : Y[0]? = some (qv, .inr (4, fs))) : sd_H l D (tyJ cI cZ cQ cJ) y_L_share b_L_share 6 h_L_share ({ frames := 8, cells := rm.cells, slots := rm.slots, locals := 160 }) [.ref qv, .int (x0), .int (x1), .int (x2), .ref qo] ([(qo, .inl (cJ, 1, .inr (.inl (f))))] ++ (Y ++ [])) (2) ([(qo, .inl (cJ, 1, .inr (.inl (f))))] ++ (Y' ++ [])) := by
  obtain ⟨hrb1, hrb2, hrb3, hrb4⟩ := hrb
  refine sd_ofH (by decide) (Nat.le_of_ble_eq_true rfl) ?_
  intro p e s m below meth c A ls hx hb hr hml hlk hown hts hK hP hD hA hS hl hX hN htab
  have hl : lv_has ls 6 [(0, .ref qv), (1, .int (x0)), (2, .int (x1)), (3, .int (x2)), (4, .ref qo)] := hl
  refine lv_aload hx hb d_L_share_0 (lv_at hl 4 rfl) ?_
  refine lv_iconst (v := 0) hx hb d_L_share_2 (by decide) ?_
  refine lv_aload_n hx hb d_L_share_3 rfl (lv_at hl 0 rfl) ?_
  refine lv_iload_n hx hb d_L_share_4 rfl (lv_at hl 1 rfl) ?_
  refine lv_iload_n hx hb d_L_share_5 rfl (lv_at hl 2 rfl) ?_
  refine lv_iload_n hx hb d_L_share_6 rfl (lv_at hl 3 rfl) ?_
  refine md_VX (X := [(qo, .inl (cJ, 1, .inr (.inl (f))))]) (C := Y) (C' := Y') (Z := []) (As := [.int (x0), .int (x1), .int (x2)]) (rest := [.int (0), .ref qo]) hM ⟨wc_V_share, wm_L_48, wi_V, by decide, by decide, show (parseMethodDescriptor y_V_share.desc).map (fun d => d.parameters.length) = some 3 by decide +kernel⟩ wo_V_share wz_V_share hx hb hml hown hts hl.1 ⟨by show rm.frames + 1 ≤ 8; omega, by show 8 + (4 + 11) + rm.locals ≤ 160; omega⟩ ⟨by show 0 + rm.cells ≤ rm.cells; omega, by show 0 + rm.slots ≤ rm.slots; omega⟩ (ty_J hK) hP hD hS hA hX hadr he rfl rfl (Nat.le_of_ble_eq_true rfl) d_L_share_7 [⟨0, 12, 15, 13⟩] ⟨0, 12, 19, 43⟩ [⟨0, 12, 23, 52⟩] htab (List.forall_mem_cons.mpr ⟨Or.inr ⟨by decide, "java/lang/IllegalArgumentException", hts _ wk_L_13, hN ("java/util/NoSuchElementException", "java/lang/IllegalArgumentException") (by decide)⟩, fun _ h9 => absurd h9 List.not_mem_nil⟩) (by decide) (by decide) wk_L_43 (by decide) (fun q9 H locs hP hD hS => ?_)
  have hP : va_P D cls ([(qo, .inl (cJ, 1, .inr (.inl (f))))] ++ (Y' ++ [])) H := hP
  have hD : va_D A ([(qo, .inl (cJ, 1, .inr (.inl (f))))] ++ (Y' ++ [])) := hD
  refine lv_astore hx hb d_L_share_19 hl (Nat.le_of_ble_eq_true rfl) (lv' := [(5, .ref q9), (0, .ref qv), (1, .int (x0)), (2, .int (x1)), (3, .int (x2)), (4, .ref qo)]) rfl (fun ls hl => ?_)
  refine lv_iconst (v := 2) hx hb d_L_share_21 (by decide) ?_
  exact sd_iret hx hb hr hlk hP hS (by show 0 + rm.cells ≤ rm.cells; omega) (by show 0 + rm.slots ≤ rm.slots; omega) (rfl) d_L_share_22
set_option maxHeartbeats 4000000 in
set_option maxRecDepth 100000 in
theorem c_L_share_x3 (l : Launch) (D : va_G) (cI cZ cQ cJ : ClassId) (qv : Nat) (qo : Nat) (x0 : Int32) (x1 : Int32) (x2 : Int32) (f : Nat → Int64) (rm : Room) (Y : va_W) (Y' : va_W) (fs : List Value) (hrb : rb rm) (hM : sd_X l D (tyL cI cZ cQ) y_V_share b_V_share 4 (some .int) rm [.ref qv, .int (x0), .int (x1), .int (x2)] Y "java/lang/IndexOutOfBoundsException" Y') (hadr : Y'.map (fun q => q.1) = Y.map (fun q => q.1)) (he : Y[0]? = some (qv, .inr (4, fs))) : sd_H l D (tyJ cI cZ cQ cJ) y_L_share b_L_share 6 h_L_share ({ frames := 8, cells := rm.cells, slots := rm.slots, locals := 160 }) [.ref qv, .int (x0), .int (x1), .int (x2), .ref qo] ([(qo, .inl (cJ, 1, .inr (.inl (f))))] ++ (Y ++ [])) (3) ([(qo, .inl (cJ, 1, .inr (.inl (f))))] ++ (Y' ++ [])) := by
  obtain ⟨hrb1, hrb2, hrb3, hrb4⟩ := hrb
  refine sd_ofH (by decide) (Nat.le_of_ble_eq_true rfl) ?_
  intro p e s m below meth c A ls hx hb hr hml hlk hown hts hK hP hD hA hS hl hX hN htab
  have hl : lv_has ls 6 [(0, .ref qv), (1, .int (x0)), (2, .int (x1)), (3, .int (x2)), (4, .ref qo)] := hl
  refine lv_aload hx hb d_L_share_0 (lv_at hl 4 rfl) ?_
  refine lv_iconst (v := 0) hx hb d_L_share_2 (by decide) ?_
  refine lv_aload_n hx hb d_L_share_3 rfl (lv_at hl 0 rfl) ?_
  refine lv_iload_n hx hb d_L_share_4 rfl (lv_at hl 1 rfl) ?_
  refine lv_iload_n hx hb d_L_share_5 rfl (lv_at hl 2 rfl) ?_
  refine lv_iload_n hx hb d_L_share_6 rfl (lv_at hl 3 rfl) ?_
  refine md_VX (X := [(qo, .inl (cJ, 1, .inr (.inl (f))))]) (C := Y) (C' := Y') (Z := []) (As := [.int (x0), .int (x1), .int (x2)]) (rest := [.int (0), .ref qo]) hM ⟨wc_V_share, wm_L_48, wi_V, by decide, by decide, show (parseMethodDescriptor y_V_share.desc).map (fun d => d.parameters.length) = some 3 by decide +kernel⟩ wo_V_share wz_V_share hx hb hml hown hts hl.1 ⟨by show rm.frames + 1 ≤ 8; omega, by show 8 + (4 + 11) + rm.locals ≤ 160; omega⟩ ⟨by show 0 + rm.cells ≤ rm.cells; omega, by show 0 + rm.slots ≤ rm.slots; omega⟩ (ty_J hK) hP hD hS hA hX hadr he rfl rfl (Nat.le_of_ble_eq_true rfl) d_L_share_7 [⟨0, 12, 15, 13⟩, ⟨0, 12, 19, 43⟩] ⟨0, 12, 23, 52⟩ [] htab (List.forall_mem_cons.mpr ⟨Or.inr ⟨by decide, "java/lang/IllegalArgumentException", hts _ wk_L_13, hN ("java/lang/IndexOutOfBoundsException", "java/lang/IllegalArgumentException") (by decide)⟩, List.forall_mem_cons.mpr ⟨Or.inr ⟨by decide, "java/util/NoSuchElementException", hts _ wk_L_43, hN ("java/lang/IndexOutOfBoundsException", "java/util/NoSuchElementException") (by decide)⟩, fun _ h9 => absurd h9 List.not_mem_nil⟩⟩) (by decide) (by decide) wk_L_52 (by decide) (fun q9 H locs hP hD hS => ?_)
  have hP : va_P D cls ([(qo, .inl (cJ, 1, .inr (.inl (f))))] ++ (Y' ++ [])) H := hP
  have hD : va_D A ([(qo, .inl (cJ, 1, .inr (.inl (f))))] ++ (Y' ++ [])) := hD
  refine lv_astore hx hb d_L_share_23 hl (Nat.le_of_ble_eq_true rfl) (lv' := [(5, .ref q9), (0, .ref qv), (1, .int (x0)), (2, .int (x1)), (3, .int (x2)), (4, .ref qo)]) rfl (fun ls hl => ?_)
  refine lv_iconst (v := 3) hx hb d_L_share_25 (by decide) ?_
  exact sd_iret hx hb hr hlk hP hS (by show 0 + rm.cells ≤ rm.cells; omega) (by show 0 + rm.slots ≤ rm.slots; omega) (rfl) d_L_share_26
set_option maxHeartbeats 4000000 in
set_option maxRecDepth 100000 in
theorem c_L_forget_y (l : Launch) (D : va_G) (cI cZ cQ cJ : ClassId) (qv : Nat) (qo : Nat) (x0 : Int32) (f : Nat → Int64) (rm : Room) (r : Int32) (Y : va_W) (Y' : va_W) (fs : List Value) (hrb : rb rm) (hM : sd_I l D (tyL cI cZ cQ) y_V_forget b_V_forget 2 .int rm [.ref qv, .int (x0)] Y r Y') (hadr : Y'.map (fun q => q.1) = Y.map (fun q => q.1)) (he : Y[0]? = some (qv, .inr (4, fs))) : sd_H l D (tyJ cI cZ cQ cJ) y_L_forget b_L_forget 4 h_L_forget ({ frames := 8, cells := rm.cells, slots := rm.slots, locals := 160 }) [.ref qv, .int (x0), .ref qo] ([(qo, .inl (cJ, 1, .inr (.inl (f))))] ++ (Y ++ [])) (0) ([(qo, .inl (cJ, 1, .inr (.inl (vp_updL (f) (0 : Int32).toNatClampNeg ((r).toInt64)))))] ++ (Y' ++ [])) := by
  obtain ⟨hrb1, hrb2, hrb3, hrb4⟩ := hrb
  refine sd_ofH (by decide) (Nat.le_of_ble_eq_true rfl) ?_
  intro p e s m below meth c A ls hx hb hr hml hlk hown hts hK hP hD hA hS hl hX hN htab
  have hl : lv_has ls 4 [(0, .ref qv), (1, .int (x0)), (2, .ref qo)] := hl
  refine lv_aload_n hx hb d_L_forget_0 rfl (lv_at hl 2 rfl) ?_
  refine lv_iconst (v := 0) hx hb d_L_forget_1 (by decide) ?_
  refine lv_aload_n hx hb d_L_forget_2 rfl (lv_at hl 0 rfl) ?_
  refine lv_iload_n hx hb d_L_forget_3 rfl (lv_at hl 1 rfl) ?_
  refine md_VI (X := [(qo, .inl (cJ, 1, .inr (.inl (f))))]) (C := Y) (C' := Y') (Z := []) (As := [.int (x0)]) (rest := [.int (0), .ref qo]) hM ⟨wc_V_forget, wm_L_54, wi_V, by decide, by decide, show (parseMethodDescriptor y_V_forget.desc).map (fun d => d.parameters.length) = some 1 by decide +kernel⟩ wo_V_forget wz_V_forget hx hb hml hown hts hl.1 ⟨by show rm.frames + 1 ≤ 8; omega, by show 8 + (2 + 11) + rm.locals ≤ 160; omega⟩ ⟨by show 0 + rm.cells ≤ rm.cells; omega, by show 0 + rm.slots ≤ rm.slots; omega⟩ (ty_J hK) hP hD hS hA hadr he rfl rfl (Nat.le_of_ble_eq_true rfl) d_L_forget_4 (fun H locs hP hD hS => ?_)
  have hP : va_P D cls ([(qo, .inl (cJ, 1, .inr (.inl (f))))] ++ (Y' ++ [])) H := hP
  have hD : va_D A ([(qo, .inl (cJ, 1, .inr (.inl (f))))] ++ (Y' ++ [])) := hD
  refine lv_i2l hx hb d_L_forget_7 rfl ?_
  refine va_last hx hb hK hP hD hS 0 3 rfl rfl (by unfold vp_in; decide) d_L_forget_8 (fun H locs hP hD hS => ?_)
  have hP : va_P D cls ([(qo, .inl (cJ, 1, .inr (.inl (vp_updL (f) (0 : Int32).toNatClampNeg ((r).toInt64)))))] ++ (Y' ++ [])) H := hP
  have hD : va_D A ([(qo, .inl (cJ, 1, .inr (.inl (vp_updL (f) (0 : Int32).toNatClampNeg ((r).toInt64)))))] ++ (Y' ++ [])) := hD
  refine lv_goto (tgt := 21) hx hb d_L_forget_9 rfl ?_
  refine lv_iconst (v := 0) hx hb d_L_forget_21 (by decide) ?_
  exact sd_iret hx hb hr hlk hP hS (by show 0 + rm.cells ≤ rm.cells; omega) (by show 0 + rm.slots ≤ rm.slots; omega) (rfl) d_L_forget_22
set_option maxHeartbeats 4000000 in
set_option maxRecDepth 100000 in
theorem c_L_forget_x1 (l : Launch) (D : va_G) (cI cZ cQ cJ : ClassId) (qv : Nat) (qo : Nat) (x0 : Int32) (f : Nat → Int64) (rm : Room) (Y : va_W) (Y' : va_W) (fs : List Value) (hrb : rb rm) (hM : sd_X l D (tyL cI cZ cQ) y_V_forget b_V_forget 2 (some .int) rm [.ref qv, .int (x0)] Y "java/lang/IllegalArgumentException" Y') (hadr : Y'.map (fun q => q.1) = Y.map (fun q => q.1)) (he : Y[0]? = some (qv, .inr (4, fs))) : sd_H l D (tyJ cI cZ cQ cJ) y_L_forget b_L_forget 4 h_L_forget ({ frames := 8, cells := rm.cells, slots := rm.slots, locals := 160 }) [.ref qv, .int (x0), .ref qo] ([(qo, .inl (cJ, 1, .inr (.inl (f))))] ++ (Y ++ [])) (1) ([(qo, .inl (cJ, 1, .inr (.inl (f))))] ++ (Y' ++ [])) := by
  obtain ⟨hrb1, hrb2, hrb3, hrb4⟩ := hrb
  refine sd_ofH (by decide) (Nat.le_of_ble_eq_true rfl) ?_
  intro p e s m below meth c A ls hx hb hr hml hlk hown hts hK hP hD hA hS hl hX hN htab
  have hl : lv_has ls 4 [(0, .ref qv), (1, .int (x0)), (2, .ref qo)] := hl
  refine lv_aload_n hx hb d_L_forget_0 rfl (lv_at hl 2 rfl) ?_
  refine lv_iconst (v := 0) hx hb d_L_forget_1 (by decide) ?_
  refine lv_aload_n hx hb d_L_forget_2 rfl (lv_at hl 0 rfl) ?_
  refine lv_iload_n hx hb d_L_forget_3 rfl (lv_at hl 1 rfl) ?_
  refine md_VX (X := [(qo, .inl (cJ, 1, .inr (.inl (f))))]) (C := Y) (C' := Y') (Z := []) (As := [.int (x0)]) (rest := [.int (0), .ref qo]) hM ⟨wc_V_forget, wm_L_54, wi_V, by decide, by decide, show (parseMethodDescriptor y_V_forget.desc).map (fun d => d.parameters.length) = some 1 by decide +kernel⟩ wo_V_forget wz_V_forget hx hb hml hown hts hl.1 ⟨by show rm.frames + 1 ≤ 8; omega, by show 8 + (2 + 11) + rm.locals ≤ 160; omega⟩ ⟨by show 0 + rm.cells ≤ rm.cells; omega, by show 0 + rm.slots ≤ rm.slots; omega⟩ (ty_J hK) hP hD hS hA hX hadr he rfl rfl (Nat.le_of_ble_eq_true rfl) d_L_forget_4 [] ⟨0, 9, 12, 13⟩ [⟨0, 9, 15, 43⟩, ⟨0, 9, 18, 21⟩] htab (fun _ h9 => absurd h9 List.not_mem_nil) (by decide) (by decide) wk_L_13 (by decide) (fun q9 H locs hP hD hS => ?_)
  have hP : va_P D cls ([(qo, .inl (cJ, 1, .inr (.inl (f))))] ++ (Y' ++ [])) H := hP
  have hD : va_D A ([(qo, .inl (cJ, 1, .inr (.inl (f))))] ++ (Y' ++ [])) := hD
  refine lv_astore_n hx hb d_L_forget_12 rfl hl (Nat.le_of_ble_eq_true rfl) (lv' := [(3, .ref q9), (0, .ref qv), (1, .int (x0)), (2, .ref qo)]) rfl (fun ls hl => ?_)
  refine lv_iconst (v := 1) hx hb d_L_forget_13 (by decide) ?_
  exact sd_iret hx hb hr hlk hP hS (by show 0 + rm.cells ≤ rm.cells; omega) (by show 0 + rm.slots ≤ rm.slots; omega) (rfl) d_L_forget_14
set_option maxHeartbeats 4000000 in
set_option maxRecDepth 100000 in
theorem c_L_forget_x2 (l : Launch) (D : va_G) (cI cZ cQ cJ : ClassId) (qv : Nat) (qo : Nat) (x0 : Int32) (f : Nat → Int64) (rm : Room) (Y : va_W) (Y' : va_W) (fs : List Value) (hrb : rb rm) (hM : sd_X l D (tyL cI cZ cQ) y_V_forget b_V_forget 2 (some .int) rm [.ref qv, .int (x0)] Y "java/util/NoSuchElementException" Y') (hadr : Y'.map (fun q => q.1) = Y.map (fun q => q.1)) (he : Y[0]? = some (qv, .inr (4, fs))) : sd_H l D (tyJ cI cZ cQ cJ) y_L_forget b_L_forget 4 h_L_forget ({ frames := 8, cells := rm.cells, slots := rm.slots, locals := 160 }) [.ref qv, .int (x0), .ref qo] ([(qo, .inl (cJ, 1, .inr (.inl (f))))] ++ (Y ++ [])) (2) ([(qo, .inl (cJ, 1, .inr (.inl (f))))] ++ (Y' ++ [])) := by
  obtain ⟨hrb1, hrb2, hrb3, hrb4⟩ := hrb
  refine sd_ofH (by decide) (Nat.le_of_ble_eq_true rfl) ?_
  intro p e s m below meth c A ls hx hb hr hml hlk hown hts hK hP hD hA hS hl hX hN htab
  have hl : lv_has ls 4 [(0, .ref qv), (1, .int (x0)), (2, .ref qo)] := hl
  refine lv_aload_n hx hb d_L_forget_0 rfl (lv_at hl 2 rfl) ?_
  refine lv_iconst (v := 0) hx hb d_L_forget_1 (by decide) ?_
  refine lv_aload_n hx hb d_L_forget_2 rfl (lv_at hl 0 rfl) ?_
  refine lv_iload_n hx hb d_L_forget_3 rfl (lv_at hl 1 rfl) ?_
  refine md_VX (X := [(qo, .inl (cJ, 1, .inr (.inl (f))))]) (C := Y) (C' := Y') (Z := []) (As := [.int (x0)]) (rest := [.int (0), .ref qo]) hM ⟨wc_V_forget, wm_L_54, wi_V, by decide, by decide, show (parseMethodDescriptor y_V_forget.desc).map (fun d => d.parameters.length) = some 1 by decide +kernel⟩ wo_V_forget wz_V_forget hx hb hml hown hts hl.1 ⟨by show rm.frames + 1 ≤ 8; omega, by show 8 + (2 + 11) + rm.locals ≤ 160; omega⟩ ⟨by show 0 + rm.cells ≤ rm.cells; omega, by show 0 + rm.slots ≤ rm.slots; omega⟩ (ty_J hK) hP hD hS hA hX hadr he rfl rfl (Nat.le_of_ble_eq_true rfl) d_L_forget_4 [⟨0, 9, 12, 13⟩] ⟨0, 9, 15, 43⟩ [⟨0, 9, 18, 21⟩] htab (List.forall_mem_cons.mpr ⟨Or.inr ⟨by decide, "java/lang/IllegalArgumentException", hts _ wk_L_13, hN ("java/util/NoSuchElementException", "java/lang/IllegalArgumentException") (by decide)⟩, fun _ h9 => absurd h9 List.not_mem_nil⟩) (by decide) (by decide) wk_L_43 (by decide) (fun q9 H locs hP hD hS => ?_)
  have hP : va_P D cls ([(qo, .inl (cJ, 1, .inr (.inl (f))))] ++ (Y' ++ [])) H := hP
  have hD : va_D A ([(qo, .inl (cJ, 1, .inr (.inl (f))))] ++ (Y' ++ [])) := hD
  refine lv_astore_n hx hb d_L_forget_15 rfl hl (Nat.le_of_ble_eq_true rfl) (lv' := [(3, .ref q9), (0, .ref qv), (1, .int (x0)), (2, .ref qo)]) rfl (fun ls hl => ?_)
  refine lv_iconst (v := 2) hx hb d_L_forget_16 (by decide) ?_
  exact sd_iret hx hb hr hlk hP hS (by show 0 + rm.cells ≤ rm.cells; omega) (by show 0 + rm.slots ≤ rm.slots; omega) (rfl) d_L_forget_17
set_option maxHeartbeats 4000000 in
set_option maxRecDepth 100000 in
theorem c_L_forget_x3 (l : Launch) (D : va_G) (cI cZ cQ cJ : ClassId) (qv : Nat) (qo : Nat) (x0 : Int32) (f : Nat → Int64) (rm : Room) (Y : va_W) (Y' : va_W) (fs : List Value) (hrb : rb rm) (hM : sd_X l D (tyL cI cZ cQ) y_V_forget b_V_forget 2 (some .int) rm [.ref qv, .int (x0)] Y "java/lang/IllegalStateException" Y') (hadr : Y'.map (fun q => q.1) = Y.map (fun q => q.1)) (he : Y[0]? = some (qv, .inr (4, fs))) : sd_H l D (tyJ cI cZ cQ cJ) y_L_forget b_L_forget 4 h_L_forget ({ frames := 8, cells := rm.cells, slots := rm.slots, locals := 160 }) [.ref qv, .int (x0), .ref qo] ([(qo, .inl (cJ, 1, .inr (.inl (f))))] ++ (Y ++ [])) (3) ([(qo, .inl (cJ, 1, .inr (.inl (f))))] ++ (Y' ++ [])) := by
  obtain ⟨hrb1, hrb2, hrb3, hrb4⟩ := hrb
  refine sd_ofH (by decide) (Nat.le_of_ble_eq_true rfl) ?_
  intro p e s m below meth c A ls hx hb hr hml hlk hown hts hK hP hD hA hS hl hX hN htab
  have hl : lv_has ls 4 [(0, .ref qv), (1, .int (x0)), (2, .ref qo)] := hl
  refine lv_aload_n hx hb d_L_forget_0 rfl (lv_at hl 2 rfl) ?_
  refine lv_iconst (v := 0) hx hb d_L_forget_1 (by decide) ?_
  refine lv_aload_n hx hb d_L_forget_2 rfl (lv_at hl 0 rfl) ?_
  refine lv_iload_n hx hb d_L_forget_3 rfl (lv_at hl 1 rfl) ?_
  refine md_VX (X := [(qo, .inl (cJ, 1, .inr (.inl (f))))]) (C := Y) (C' := Y') (Z := []) (As := [.int (x0)]) (rest := [.int (0), .ref qo]) hM ⟨wc_V_forget, wm_L_54, wi_V, by decide, by decide, show (parseMethodDescriptor y_V_forget.desc).map (fun d => d.parameters.length) = some 1 by decide +kernel⟩ wo_V_forget wz_V_forget hx hb hml hown hts hl.1 ⟨by show rm.frames + 1 ≤ 8; omega, by show 8 + (2 + 11) + rm.locals ≤ 160; omega⟩ ⟨by show 0 + rm.cells ≤ rm.cells; omega, by show 0 + rm.slots ≤ rm.slots; omega⟩ (ty_J hK) hP hD hS hA hX hadr he rfl rfl (Nat.le_of_ble_eq_true rfl) d_L_forget_4 [⟨0, 9, 12, 13⟩, ⟨0, 9, 15, 43⟩] ⟨0, 9, 18, 21⟩ [] htab (List.forall_mem_cons.mpr ⟨Or.inr ⟨by decide, "java/lang/IllegalArgumentException", hts _ wk_L_13, hN ("java/lang/IllegalStateException", "java/lang/IllegalArgumentException") (by decide)⟩, List.forall_mem_cons.mpr ⟨Or.inr ⟨by decide, "java/util/NoSuchElementException", hts _ wk_L_43, hN ("java/lang/IllegalStateException", "java/util/NoSuchElementException") (by decide)⟩, fun _ h9 => absurd h9 List.not_mem_nil⟩⟩) (by decide) (by decide) wk_L_21 (by decide) (fun q9 H locs hP hD hS => ?_)
  have hP : va_P D cls ([(qo, .inl (cJ, 1, .inr (.inl (f))))] ++ (Y' ++ [])) H := hP
  have hD : va_D A ([(qo, .inl (cJ, 1, .inr (.inl (f))))] ++ (Y' ++ [])) := hD
  refine lv_astore_n hx hb d_L_forget_18 rfl hl (Nat.le_of_ble_eq_true rfl) (lv' := [(3, .ref q9), (0, .ref qv), (1, .int (x0)), (2, .ref qo)]) rfl (fun ls hl => ?_)
  refine lv_iconst (v := 3) hx hb d_L_forget_19 (by decide) ?_
  exact sd_iret hx hb hr hlk hP hS (by show 0 + rm.cells ≤ rm.cells; omega) (by show 0 + rm.slots ≤ rm.slots; omega) (rfl) d_L_forget_20
set_option maxHeartbeats 4000000 in
set_option maxRecDepth 100000 in
theorem c_L_need_y (l : Launch) (D : va_G) (cI cZ cQ cJ : ClassId) (qv : Nat) (qo : Nat) (x0 : Int32) (f : Nat → Int64) (rm : Room) (r : Int32) (Y : va_W) (Y' : va_W) (fs : List Value) (hrb : rb rm) (hM : sd_I l D (tyL cI cZ cQ) y_V_need b_V_need 2 .int rm [.ref qv, .int (x0)] Y r Y') (hadr : Y'.map (fun q => q.1) = Y.map (fun q => q.1)) (he : Y[0]? = some (qv, .inr (4, fs))) : sd_H l D (tyJ cI cZ cQ cJ) y_L_need b_L_need 4 h_L_need ({ frames := 8, cells := rm.cells, slots := rm.slots, locals := 160 }) [.ref qv, .int (x0), .ref qo] ([(qo, .inl (cJ, 1, .inr (.inl (f))))] ++ (Y ++ [])) (0) ([(qo, .inl (cJ, 1, .inr (.inl (vp_updL (f) (0 : Int32).toNatClampNeg ((r).toInt64)))))] ++ (Y' ++ [])) := by
  obtain ⟨hrb1, hrb2, hrb3, hrb4⟩ := hrb
  refine sd_ofH (by decide) (Nat.le_of_ble_eq_true rfl) ?_
  intro p e s m below meth c A ls hx hb hr hml hlk hown hts hK hP hD hA hS hl hX hN htab
  have hl : lv_has ls 4 [(0, .ref qv), (1, .int (x0)), (2, .ref qo)] := hl
  refine lv_aload_n hx hb d_L_need_0 rfl (lv_at hl 2 rfl) ?_
  refine lv_iconst (v := 0) hx hb d_L_need_1 (by decide) ?_
  refine lv_aload_n hx hb d_L_need_2 rfl (lv_at hl 0 rfl) ?_
  refine lv_iload_n hx hb d_L_need_3 rfl (lv_at hl 1 rfl) ?_
  refine md_VI (X := [(qo, .inl (cJ, 1, .inr (.inl (f))))]) (C := Y) (C' := Y') (Z := []) (As := [.int (x0)]) (rest := [.int (0), .ref qo]) hM ⟨wc_V_need, wm_L_57, wi_V, by decide, by decide, show (parseMethodDescriptor y_V_need.desc).map (fun d => d.parameters.length) = some 1 by decide +kernel⟩ wo_V_need wz_V_need hx hb hml hown hts hl.1 ⟨by show rm.frames + 1 ≤ 8; omega, by show 8 + (2 + 11) + rm.locals ≤ 160; omega⟩ ⟨by show 0 + rm.cells ≤ rm.cells; omega, by show 0 + rm.slots ≤ rm.slots; omega⟩ (ty_J hK) hP hD hS hA hadr he rfl rfl (Nat.le_of_ble_eq_true rfl) d_L_need_4 (fun H locs hP hD hS => ?_)
  have hP : va_P D cls ([(qo, .inl (cJ, 1, .inr (.inl (f))))] ++ (Y' ++ [])) H := hP
  have hD : va_D A ([(qo, .inl (cJ, 1, .inr (.inl (f))))] ++ (Y' ++ [])) := hD
  refine lv_i2l hx hb d_L_need_7 rfl ?_
  refine va_last hx hb hK hP hD hS 0 3 rfl rfl (by unfold vp_in; decide) d_L_need_8 (fun H locs hP hD hS => ?_)
  have hP : va_P D cls ([(qo, .inl (cJ, 1, .inr (.inl (vp_updL (f) (0 : Int32).toNatClampNeg ((r).toInt64)))))] ++ (Y' ++ [])) H := hP
  have hD : va_D A ([(qo, .inl (cJ, 1, .inr (.inl (vp_updL (f) (0 : Int32).toNatClampNeg ((r).toInt64)))))] ++ (Y' ++ [])) := hD
  refine lv_goto (tgt := 15) hx hb d_L_need_9 rfl ?_
  refine lv_iconst (v := 0) hx hb d_L_need_15 (by decide) ?_
  exact sd_iret hx hb hr hlk hP hS (by show 0 + rm.cells ≤ rm.cells; omega) (by show 0 + rm.slots ≤ rm.slots; omega) (rfl) d_L_need_16
set_option maxHeartbeats 4000000 in
set_option maxRecDepth 100000 in
theorem c_L_need_x1 (l : Launch) (D : va_G) (cI cZ cQ cJ : ClassId) (qv : Nat) (qo : Nat) (x0 : Int32) (f : Nat → Int64) (rm : Room) (Y : va_W) (Y' : va_W) (fs : List Value) (hrb : rb rm) (hM : sd_X l D (tyL cI cZ cQ) y_V_need b_V_need 2 (some .int) rm [.ref qv, .int (x0)] Y "java/lang/IllegalArgumentException" Y') (hadr : Y'.map (fun q => q.1) = Y.map (fun q => q.1)) (he : Y[0]? = some (qv, .inr (4, fs))) : sd_H l D (tyJ cI cZ cQ cJ) y_L_need b_L_need 4 h_L_need ({ frames := 8, cells := rm.cells, slots := rm.slots, locals := 160 }) [.ref qv, .int (x0), .ref qo] ([(qo, .inl (cJ, 1, .inr (.inl (f))))] ++ (Y ++ [])) (1) ([(qo, .inl (cJ, 1, .inr (.inl (f))))] ++ (Y' ++ [])) := by
  obtain ⟨hrb1, hrb2, hrb3, hrb4⟩ := hrb
  refine sd_ofH (by decide) (Nat.le_of_ble_eq_true rfl) ?_
  intro p e s m below meth c A ls hx hb hr hml hlk hown hts hK hP hD hA hS hl hX hN htab
  have hl : lv_has ls 4 [(0, .ref qv), (1, .int (x0)), (2, .ref qo)] := hl
  refine lv_aload_n hx hb d_L_need_0 rfl (lv_at hl 2 rfl) ?_
  refine lv_iconst (v := 0) hx hb d_L_need_1 (by decide) ?_
  refine lv_aload_n hx hb d_L_need_2 rfl (lv_at hl 0 rfl) ?_
  refine lv_iload_n hx hb d_L_need_3 rfl (lv_at hl 1 rfl) ?_
  refine md_VX (X := [(qo, .inl (cJ, 1, .inr (.inl (f))))]) (C := Y) (C' := Y') (Z := []) (As := [.int (x0)]) (rest := [.int (0), .ref qo]) hM ⟨wc_V_need, wm_L_57, wi_V, by decide, by decide, show (parseMethodDescriptor y_V_need.desc).map (fun d => d.parameters.length) = some 1 by decide +kernel⟩ wo_V_need wz_V_need hx hb hml hown hts hl.1 ⟨by show rm.frames + 1 ≤ 8; omega, by show 8 + (2 + 11) + rm.locals ≤ 160; omega⟩ ⟨by show 0 + rm.cells ≤ rm.cells; omega, by show 0 + rm.slots ≤ rm.slots; omega⟩ (ty_J hK) hP hD hS hA hX hadr he rfl rfl (Nat.le_of_ble_eq_true rfl) d_L_need_4 [] ⟨0, 9, 12, 13⟩ [] htab (fun _ h9 => absurd h9 List.not_mem_nil) (by decide) (by decide) wk_L_13 (by decide) (fun q9 H locs hP hD hS => ?_)
  have hP : va_P D cls ([(qo, .inl (cJ, 1, .inr (.inl (f))))] ++ (Y' ++ [])) H := hP
  have hD : va_D A ([(qo, .inl (cJ, 1, .inr (.inl (f))))] ++ (Y' ++ [])) := hD
  refine lv_astore_n hx hb d_L_need_12 rfl hl (Nat.le_of_ble_eq_true rfl) (lv' := [(3, .ref q9), (0, .ref qv), (1, .int (x0)), (2, .ref qo)]) rfl (fun ls hl => ?_)
  refine lv_iconst (v := 1) hx hb d_L_need_13 (by decide) ?_
  exact sd_iret hx hb hr hlk hP hS (by show 0 + rm.cells ≤ rm.cells; omega) (by show 0 + rm.slots ≤ rm.slots; omega) (rfl) d_L_need_14
set_option maxHeartbeats 4000000 in
set_option maxRecDepth 100000 in
theorem c_L_message_y (l : Launch) (D : va_G) (cI cZ cQ cJ : ClassId) (qv : Nat) (qo : Nat) (x0 : Int32) (x1 : Int32) (f : Nat → Int64) (rm : Room) (r : Int32) (Y : va_W) (Y' : va_W) (fs : List Value) (hrb : rb rm) (hM : sd_I l D (tyL cI cZ cQ) y_V_message b_V_message 3 .int rm [.ref qv, .int (x0), .int (x1)] Y r Y') (hadr : Y'.map (fun q => q.1) = Y.map (fun q => q.1)) (he : Y[0]? = some (qv, .inr (4, fs))) : sd_H l D (tyJ cI cZ cQ cJ) y_L_message b_L_message 5 h_L_message ({ frames := 8, cells := rm.cells, slots := rm.slots, locals := 160 }) [.ref qv, .int (x0), .int (x1), .ref qo] ([(qo, .inl (cJ, 1, .inr (.inl (f))))] ++ (Y ++ [])) (0) ([(qo, .inl (cJ, 1, .inr (.inl (vp_updL (f) (0 : Int32).toNatClampNeg ((r).toInt64)))))] ++ (Y' ++ [])) := by
  obtain ⟨hrb1, hrb2, hrb3, hrb4⟩ := hrb
  refine sd_ofH (by decide) (Nat.le_of_ble_eq_true rfl) ?_
  intro p e s m below meth c A ls hx hb hr hml hlk hown hts hK hP hD hA hS hl hX hN htab
  have hl : lv_has ls 5 [(0, .ref qv), (1, .int (x0)), (2, .int (x1)), (3, .ref qo)] := hl
  refine lv_aload_n hx hb d_L_message_0 rfl (lv_at hl 3 rfl) ?_
  refine lv_iconst (v := 0) hx hb d_L_message_1 (by decide) ?_
  refine lv_aload_n hx hb d_L_message_2 rfl (lv_at hl 0 rfl) ?_
  refine lv_iload_n hx hb d_L_message_3 rfl (lv_at hl 1 rfl) ?_
  refine lv_iload_n hx hb d_L_message_4 rfl (lv_at hl 2 rfl) ?_
  refine md_VI (X := [(qo, .inl (cJ, 1, .inr (.inl (f))))]) (C := Y) (C' := Y') (Z := []) (As := [.int (x0), .int (x1)]) (rest := [.int (0), .ref qo]) hM ⟨wc_V_message, wm_L_60, wi_V, by decide, by decide, show (parseMethodDescriptor y_V_message.desc).map (fun d => d.parameters.length) = some 2 by decide +kernel⟩ wo_V_message wz_V_message hx hb hml hown hts hl.1 ⟨by show rm.frames + 1 ≤ 8; omega, by show 8 + (3 + 11) + rm.locals ≤ 160; omega⟩ ⟨by show 0 + rm.cells ≤ rm.cells; omega, by show 0 + rm.slots ≤ rm.slots; omega⟩ (ty_J hK) hP hD hS hA hadr he rfl rfl (Nat.le_of_ble_eq_true rfl) d_L_message_5 (fun H locs hP hD hS => ?_)
  have hP : va_P D cls ([(qo, .inl (cJ, 1, .inr (.inl (f))))] ++ (Y' ++ [])) H := hP
  have hD : va_D A ([(qo, .inl (cJ, 1, .inr (.inl (f))))] ++ (Y' ++ [])) := hD
  refine lv_i2l hx hb d_L_message_8 rfl ?_
  refine va_last hx hb hK hP hD hS 0 3 rfl rfl (by unfold vp_in; decide) d_L_message_9 (fun H locs hP hD hS => ?_)
  have hP : va_P D cls ([(qo, .inl (cJ, 1, .inr (.inl (vp_updL (f) (0 : Int32).toNatClampNeg ((r).toInt64)))))] ++ (Y' ++ [])) H := hP
  have hD : va_D A ([(qo, .inl (cJ, 1, .inr (.inl (vp_updL (f) (0 : Int32).toNatClampNeg ((r).toInt64)))))] ++ (Y' ++ [])) := hD
  refine lv_goto (tgt := 21) hx hb d_L_message_10 rfl ?_
  refine lv_iconst (v := 0) hx hb d_L_message_21 (by decide) ?_
  exact sd_iret hx hb hr hlk hP hS (by show 0 + rm.cells ≤ rm.cells; omega) (by show 0 + rm.slots ≤ rm.slots; omega) (rfl) d_L_message_22
set_option maxHeartbeats 4000000 in
set_option maxRecDepth 100000 in
theorem c_L_message_x1 (l : Launch) (D : va_G) (cI cZ cQ cJ : ClassId) (qv : Nat) (qo : Nat) (x0 : Int32) (x1 : Int32) (f : Nat → Int64) (rm : Room) (Y : va_W) (Y' : va_W) (fs : List Value) (hrb : rb rm) (hM : sd_X l D (tyL cI cZ cQ) y_V_message b_V_message 3 (some .int) rm [.ref qv, .int (x0), .int (x1)] Y "java/lang/IndexOutOfBoundsException" Y') (hadr : Y'.map (fun q => q.1) = Y.map (fun q => q.1)) (he : Y[0]? = some (qv, .inr (4, fs))) : sd_H l D (tyJ cI cZ cQ cJ) y_L_message b_L_message 5 h_L_message ({ frames := 8, cells := rm.cells, slots := rm.slots, locals := 160 }) [.ref qv, .int (x0), .int (x1), .ref qo] ([(qo, .inl (cJ, 1, .inr (.inl (f))))] ++ (Y ++ [])) (1) ([(qo, .inl (cJ, 1, .inr (.inl (f))))] ++ (Y' ++ [])) := by
  obtain ⟨hrb1, hrb2, hrb3, hrb4⟩ := hrb
  refine sd_ofH (by decide) (Nat.le_of_ble_eq_true rfl) ?_
  intro p e s m below meth c A ls hx hb hr hml hlk hown hts hK hP hD hA hS hl hX hN htab
  have hl : lv_has ls 5 [(0, .ref qv), (1, .int (x0)), (2, .int (x1)), (3, .ref qo)] := hl
  refine lv_aload_n hx hb d_L_message_0 rfl (lv_at hl 3 rfl) ?_
  refine lv_iconst (v := 0) hx hb d_L_message_1 (by decide) ?_
  refine lv_aload_n hx hb d_L_message_2 rfl (lv_at hl 0 rfl) ?_
  refine lv_iload_n hx hb d_L_message_3 rfl (lv_at hl 1 rfl) ?_
  refine lv_iload_n hx hb d_L_message_4 rfl (lv_at hl 2 rfl) ?_
  refine md_VX (X := [(qo, .inl (cJ, 1, .inr (.inl (f))))]) (C := Y) (C' := Y') (Z := []) (As := [.int (x0), .int (x1)]) (rest := [.int (0), .ref qo]) hM ⟨wc_V_message, wm_L_60, wi_V, by decide, by decide, show (parseMethodDescriptor y_V_message.desc).map (fun d => d.parameters.length) = some 2 by decide +kernel⟩ wo_V_message wz_V_message hx hb hml hown hts hl.1 ⟨by show rm.frames + 1 ≤ 8; omega, by show 8 + (3 + 11) + rm.locals ≤ 160; omega⟩ ⟨by show 0 + rm.cells ≤ rm.cells; omega, by show 0 + rm.slots ≤ rm.slots; omega⟩ (ty_J hK) hP hD hS hA hX hadr he rfl rfl (Nat.le_of_ble_eq_true rfl) d_L_message_5 [] ⟨0, 10, 13, 52⟩ [⟨0, 10, 17, 13⟩] htab (fun _ h9 => absurd h9 List.not_mem_nil) (by decide) (by decide) wk_L_52 (by decide) (fun q9 H locs hP hD hS => ?_)
  have hP : va_P D cls ([(qo, .inl (cJ, 1, .inr (.inl (f))))] ++ (Y' ++ [])) H := hP
  have hD : va_D A ([(qo, .inl (cJ, 1, .inr (.inl (f))))] ++ (Y' ++ [])) := hD
  refine lv_astore hx hb d_L_message_13 hl (Nat.le_of_ble_eq_true rfl) (lv' := [(4, .ref q9), (0, .ref qv), (1, .int (x0)), (2, .int (x1)), (3, .ref qo)]) rfl (fun ls hl => ?_)
  refine lv_iconst (v := 1) hx hb d_L_message_15 (by decide) ?_
  exact sd_iret hx hb hr hlk hP hS (by show 0 + rm.cells ≤ rm.cells; omega) (by show 0 + rm.slots ≤ rm.slots; omega) (rfl) d_L_message_16
set_option maxHeartbeats 4000000 in
set_option maxRecDepth 100000 in
theorem c_L_message_x2 (l : Launch) (D : va_G) (cI cZ cQ cJ : ClassId) (qv : Nat) (qo : Nat) (x0 : Int32) (x1 : Int32) (f : Nat → Int64) (rm : Room) (Y : va_W) (Y' : va_W) (fs : List Value) (hrb : rb rm) (hM : sd_X l D (tyL cI cZ cQ) y_V_message b_V_message 3 (some .int) rm [.ref qv, .int (x0), .int (x1)] Y "java/lang/IllegalArgumentException" Y') (hadr : Y'.map (fun q => q.1) = Y.map (fun q => q.1)) (he : Y[0]? = some (qv, .inr (4, fs))) : sd_H l D (tyJ cI cZ cQ cJ) y_L_message b_L_message 5 h_L_message ({ frames := 8, cells := rm.cells, slots := rm.slots, locals := 160 }) [.ref qv, .int (x0), .int (x1), .ref qo] ([(qo, .inl (cJ, 1, .inr (.inl (f))))] ++ (Y ++ [])) (2) ([(qo, .inl (cJ, 1, .inr (.inl (f))))] ++ (Y' ++ [])) := by
  obtain ⟨hrb1, hrb2, hrb3, hrb4⟩ := hrb
  refine sd_ofH (by decide) (Nat.le_of_ble_eq_true rfl) ?_
  intro p e s m below meth c A ls hx hb hr hml hlk hown hts hK hP hD hA hS hl hX hN htab
  have hl : lv_has ls 5 [(0, .ref qv), (1, .int (x0)), (2, .int (x1)), (3, .ref qo)] := hl
  refine lv_aload_n hx hb d_L_message_0 rfl (lv_at hl 3 rfl) ?_
  refine lv_iconst (v := 0) hx hb d_L_message_1 (by decide) ?_
  refine lv_aload_n hx hb d_L_message_2 rfl (lv_at hl 0 rfl) ?_
  refine lv_iload_n hx hb d_L_message_3 rfl (lv_at hl 1 rfl) ?_
  refine lv_iload_n hx hb d_L_message_4 rfl (lv_at hl 2 rfl) ?_
  refine md_VX (X := [(qo, .inl (cJ, 1, .inr (.inl (f))))]) (C := Y) (C' := Y') (Z := []) (As := [.int (x0), .int (x1)]) (rest := [.int (0), .ref qo]) hM ⟨wc_V_message, wm_L_60, wi_V, by decide, by decide, show (parseMethodDescriptor y_V_message.desc).map (fun d => d.parameters.length) = some 2 by decide +kernel⟩ wo_V_message wz_V_message hx hb hml hown hts hl.1 ⟨by show rm.frames + 1 ≤ 8; omega, by show 8 + (3 + 11) + rm.locals ≤ 160; omega⟩ ⟨by show 0 + rm.cells ≤ rm.cells; omega, by show 0 + rm.slots ≤ rm.slots; omega⟩ (ty_J hK) hP hD hS hA hX hadr he rfl rfl (Nat.le_of_ble_eq_true rfl) d_L_message_5 [⟨0, 10, 13, 52⟩] ⟨0, 10, 17, 13⟩ [] htab (List.forall_mem_cons.mpr ⟨Or.inr ⟨by decide, "java/lang/IndexOutOfBoundsException", hts _ wk_L_52, hN ("java/lang/IllegalArgumentException", "java/lang/IndexOutOfBoundsException") (by decide)⟩, fun _ h9 => absurd h9 List.not_mem_nil⟩) (by decide) (by decide) wk_L_13 (by decide) (fun q9 H locs hP hD hS => ?_)
  have hP : va_P D cls ([(qo, .inl (cJ, 1, .inr (.inl (f))))] ++ (Y' ++ [])) H := hP
  have hD : va_D A ([(qo, .inl (cJ, 1, .inr (.inl (f))))] ++ (Y' ++ [])) := hD
  refine lv_astore hx hb d_L_message_17 hl (Nat.le_of_ble_eq_true rfl) (lv' := [(4, .ref q9), (0, .ref qv), (1, .int (x0)), (2, .int (x1)), (3, .ref qo)]) rfl (fun ls hl => ?_)
  refine lv_iconst (v := 2) hx hb d_L_message_19 (by decide) ?_
  exact sd_iret hx hb hr hlk hP hS (by show 0 + rm.cells ≤ rm.cells; omega) (by show 0 + rm.slots ≤ rm.slots; omega) (rfl) d_L_message_20
theorem d_L_cell_0 : decode b_L_cell 0 = .ok (.iload_n 1, 1) := by decide +kernel
theorem d_L_cell_1 : decode b_L_cell 1 = .ok (.aload_n 0, 1) := by decide +kernel
theorem d_L_cell_2 : decode b_L_cell 2 = .ok (.arraylength, 1) := by decide +kernel
theorem d_L_cell_3 : decode b_L_cell 3 = .ok (.if_icmp .ge 9, 3) := by decide +kernel
theorem d_L_cell_6 : decode b_L_cell 6 = .ok (.aload_n 0, 1) := by decide +kernel
theorem d_L_cell_7 : decode b_L_cell 7 = .ok (.iload_n 1, 1) := by decide +kernel
theorem d_L_cell_8 : decode b_L_cell 8 = .ok (.iaload, 1) := by decide +kernel
theorem d_L_cell_9 : decode b_L_cell 9 = .ok (.goto 4, 3) := by decide +kernel
theorem d_L_cell_12 : decode b_L_cell 12 = .ok (.iconst 0, 1) := by decide +kernel
theorem d_L_cell_13 : decode b_L_cell 13 = .ok (.ireturn, 1) := by decide +kernel
