/-! what the small methods of the law answer, thrown or not -/
abbrev rbL (r : Room) : Prop := r.frames ≤ 8 ∧ r.locals ≤ 160 ∧ r.cells ≤ 4 ∧ r.slots ≤ 40
theorem rbL_of {rm : Room} (h : rb rm) : rbL { frames := 8, cells := rm.cells, slots := rm.slots, locals := 160 } := ⟨Nat.le_refl _, Nat.le_refl _, h.2.2.1, h.2.2.2⟩
abbrev oC (cJ : ClassId) (qo : Nat) (f : Nat → Int64) : va_W := [(qo, .inl (cJ, 1, .inr (.inl f)))]
def okL (l : Launch) (D : va_G) (cI cZ cQ cJ : ClassId) (a : VA) (qo : Nat) (y : MethodName) (cc : ByteArray) (n : Nat) (hh : List (Nat × Nat × Nat × Nat)) (av : List Value) (f : Nat → Int64) (v : VS) (r : Int32) (f' : Nat → Int64) (v' : VS) : Prop := ∃ rm : Room, rbL rm ∧ sd_H l D (tyJ cI cZ cQ cJ) y cc n hh rm av (oC cJ qo f ++ vX cI cZ cQ a v) r (oC cJ qo f' ++ vX cI cZ cQ a v')
def okK (l : Launch) (D : va_G) (cI cZ cQ cJ : ClassId) (a : VA) (y : MethodName) (cc : ByteArray) (n : Nat) (hh : List (Nat × Nat × Nat × Nat)) (av : List Value) (v : VS) (r : Int32) (v' : VS) : Prop := ∃ rm : Room, rbL rm ∧ sd_H l D (tyJ cI cZ cQ cJ) y cc n hh rm av (vX cI cZ cQ a v) r (vX cI cZ cQ a v')
theorem vX_adr (cI cZ cQ : ClassId) (a : VA) (v v' : VS) : (vX cI cZ cQ a v').map (fun q => q.1) = (vX cI cZ cQ a v).map (fun q => q.1) := va_adr rfl
theorem mX_adr (cI cZ : ClassId) (a : VA) (b : MA) (m m' : MS) : (mX cI cZ a b m').map (fun q => q.1) = (mX cI cZ a b m).map (fun q => q.1) := rfl
theorem uL_0 (f : Nat → Int64) (x : Int64) : vp_updL f (0 : Int32).toNatClampNeg x 0 = x := by unfold vp_updL; exact if_pos (by decide)
theorem lo_feed {l : Launch} {D : va_G} {cI cZ cQ : ClassId} {a : VA} {v v' : VS} {m' : MS} {r9 : Int32} (qo : Nat) (cJ : ClassId) (f : Nat → Int64) (x0 : Int64) (x1 : Int32) (hV : (m'.cd = 0 ∧ okV l D cI cZ cQ a y_V_feed b_V_feed 5 .int [.ref a.qv, .long (x0), .int (x1)] v r9 v') ∨ ∃ q ∈ ([("java/lang/IllegalArgumentException", 1), ("java/lang/UnsupportedOperationException", 2)] : List (String × Int32)), m'.cd = q.2 ∧ thV l D cI cZ cQ a y_V_feed b_V_feed 5 (some .int) [.ref a.qv, .long (x0), .int (x1)] v q.1 v') : ∃ f' : Nat → Int64, okL l D cI cZ cQ cJ a qo y_L_feed b_L_feed 6 h_L_feed [.ref a.qv, .long (x0), .int (x1), .ref qo] f v m'.cd f' v' ∧ (m'.cd = 0 → f' 0 = r9.toInt64) := by
  rcases hV with ⟨h0, rm, hrb, hM⟩ | ⟨q, hq, hcd, rm, hrb, hM⟩
  · have hH := c_L_feed_y l D cI cZ cQ cJ a.qv qo x0 x1 f rm r9 (vX cI cZ cQ a v) (vX cI cZ cQ a v') _ hrb hM (vX_adr _ _ _ _ _ _) rfl
    rw [List.append_nil, List.append_nil] at hH
    refine ⟨_, ⟨_, rbL_of hrb, ?_⟩, fun _ => uL_0 f _⟩
    rw [h0]
    exact hH
  · rcases List.mem_cons.mp hq with rfl | hq
    · have hH := c_L_feed_x1 l D cI cZ cQ cJ a.qv qo x0 x1 f rm (vX cI cZ cQ a v) (vX cI cZ cQ a v') _ hrb hM (vX_adr _ _ _ _ _ _) rfl
      rw [List.append_nil, List.append_nil] at hH
      exact ⟨f, ⟨_, rbL_of hrb, by rw [hcd]; exact hH⟩, fun h9 => absurd (hcd.symm.trans h9) (by decide)⟩
    rcases List.mem_cons.mp hq with rfl | hq
    · have hH := c_L_feed_x2 l D cI cZ cQ cJ a.qv qo x0 x1 f rm (vX cI cZ cQ a v) (vX cI cZ cQ a v') _ hrb hM (vX_adr _ _ _ _ _ _) rfl
      rw [List.append_nil, List.append_nil] at hH
      exact ⟨f, ⟨_, rbL_of hrb, by rw [hcd]; exact hH⟩, fun h9 => absurd (hcd.symm.trans h9) (by decide)⟩
    exact absurd hq List.not_mem_nil
theorem lo_store {l : Launch} {D : va_G} {cI cZ cQ : ClassId} {a : VA} {v v' : VS} {m' : MS} {r9 : Int32} (qo : Nat) (cJ : ClassId) (f : Nat → Int64) (x0 : Int32) (x1 : Int64) (x2 : Int32) (hV : (m'.cd = 0 ∧ okV l D cI cZ cQ a y_V_store b_V_store 8 .int [.ref a.qv, .int (x0), .long (x1), .int (x2)] v r9 v') ∨ ∃ q ∈ ([("java/lang/IllegalArgumentException", 1), ("java/lang/IllegalStateException", 2), ("java/lang/UnsupportedOperationException", 3)] : List (String × Int32)), m'.cd = q.2 ∧ thV l D cI cZ cQ a y_V_store b_V_store 8 (some .int) [.ref a.qv, .int (x0), .long (x1), .int (x2)] v q.1 v') : ∃ f' : Nat → Int64, okL l D cI cZ cQ cJ a qo y_L_store b_L_store 7 h_L_store [.ref a.qv, .int (x0), .long (x1), .int (x2), .ref qo] f v m'.cd f' v' ∧ (m'.cd = 0 → f' 0 = r9.toInt64) := by
  rcases hV with ⟨h0, rm, hrb, hM⟩ | ⟨q, hq, hcd, rm, hrb, hM⟩
  · have hH := c_L_store_y l D cI cZ cQ cJ a.qv qo x0 x1 x2 f rm r9 (vX cI cZ cQ a v) (vX cI cZ cQ a v') _ hrb hM (vX_adr _ _ _ _ _ _) rfl
    rw [List.append_nil, List.append_nil] at hH
    refine ⟨_, ⟨_, rbL_of hrb, ?_⟩, fun _ => uL_0 f _⟩
    rw [h0]
    exact hH
  · rcases List.mem_cons.mp hq with rfl | hq
    · have hH := c_L_store_x1 l D cI cZ cQ cJ a.qv qo x0 x1 x2 f rm (vX cI cZ cQ a v) (vX cI cZ cQ a v') _ hrb hM (vX_adr _ _ _ _ _ _) rfl
      rw [List.append_nil, List.append_nil] at hH
      exact ⟨f, ⟨_, rbL_of hrb, by rw [hcd]; exact hH⟩, fun h9 => absurd (hcd.symm.trans h9) (by decide)⟩
    rcases List.mem_cons.mp hq with rfl | hq
    · have hH := c_L_store_x2 l D cI cZ cQ cJ a.qv qo x0 x1 x2 f rm (vX cI cZ cQ a v) (vX cI cZ cQ a v') _ hrb hM (vX_adr _ _ _ _ _ _) rfl
      rw [List.append_nil, List.append_nil] at hH
      exact ⟨f, ⟨_, rbL_of hrb, by rw [hcd]; exact hH⟩, fun h9 => absurd (hcd.symm.trans h9) (by decide)⟩
    rcases List.mem_cons.mp hq with rfl | hq
    · have hH := c_L_store_x3 l D cI cZ cQ cJ a.qv qo x0 x1 x2 f rm (vX cI cZ cQ a v) (vX cI cZ cQ a v') _ hrb hM (vX_adr _ _ _ _ _ _) rfl
      rw [List.append_nil, List.append_nil] at hH
      exact ⟨f, ⟨_, rbL_of hrb, by rw [hcd]; exact hH⟩, fun h9 => absurd (hcd.symm.trans h9) (by decide)⟩
    exact absurd hq List.not_mem_nil
theorem lo_refresh {l : Launch} {D : va_G} {cI cZ cQ : ClassId} {a : VA} {v v' : VS} {m' : MS} {r9 : Int32} (qo : Nat) (cJ : ClassId) (f : Nat → Int64) (hV : (m'.cd = 0 ∧ okV l D cI cZ cQ a y_V_refresh b_V_refresh 5 .int [.ref a.qv] v r9 v') ∨ ∃ q ∈ ([("java/lang/IllegalStateException", 1), ("java/lang/UnsupportedOperationException", 2)] : List (String × Int32)), m'.cd = q.2 ∧ thV l D cI cZ cQ a y_V_refresh b_V_refresh 5 (some .int) [.ref a.qv] v q.1 v') : ∃ f' : Nat → Int64, okL l D cI cZ cQ cJ a qo y_L_refresh b_L_refresh 3 h_L_refresh [.ref a.qv, .ref qo] f v m'.cd f' v' ∧ (m'.cd = 0 → f' 0 = r9.toInt64) := by
  rcases hV with ⟨h0, rm, hrb, hM⟩ | ⟨q, hq, hcd, rm, hrb, hM⟩
  · have hH := c_L_refresh_y l D cI cZ cQ cJ a.qv qo  f rm r9 (vX cI cZ cQ a v) (vX cI cZ cQ a v') _ hrb hM (vX_adr _ _ _ _ _ _) rfl
    rw [List.append_nil, List.append_nil] at hH
    refine ⟨_, ⟨_, rbL_of hrb, ?_⟩, fun _ => uL_0 f _⟩
    rw [h0]
    exact hH
  · rcases List.mem_cons.mp hq with rfl | hq
    · have hH := c_L_refresh_x1 l D cI cZ cQ cJ a.qv qo  f rm (vX cI cZ cQ a v) (vX cI cZ cQ a v') _ hrb hM (vX_adr _ _ _ _ _ _) rfl
      rw [List.append_nil, List.append_nil] at hH
      exact ⟨f, ⟨_, rbL_of hrb, by rw [hcd]; exact hH⟩, fun h9 => absurd (hcd.symm.trans h9) (by decide)⟩
    rcases List.mem_cons.mp hq with rfl | hq
    · have hH := c_L_refresh_x2 l D cI cZ cQ cJ a.qv qo  f rm (vX cI cZ cQ a v) (vX cI cZ cQ a v') _ hrb hM (vX_adr _ _ _ _ _ _) rfl
      rw [List.append_nil, List.append_nil] at hH
      exact ⟨f, ⟨_, rbL_of hrb, by rw [hcd]; exact hH⟩, fun h9 => absurd (hcd.symm.trans h9) (by decide)⟩
    exact absurd hq List.not_mem_nil
theorem lo_empty {l : Launch} {D : va_G} {cI cZ cQ : ClassId} {a : VA} {v v' : VS} {m' : MS} {r9 : Int32} (qo : Nat) (cJ : ClassId) (f : Nat → Int64) (x0 : Int32) (hV : (m'.cd = 0 ∧ okV l D cI cZ cQ a y_V_empty b_V_empty 2 .int [.ref a.qv, .int (x0)] v r9 v') ∨ ∃ q ∈ ([("java/lang/IllegalArgumentException", 1), ("java/lang/IllegalStateException", 2)] : List (String × Int32)), m'.cd = q.2 ∧ thV l D cI cZ cQ a y_V_empty b_V_empty 2 (some .int) [.ref a.qv, .int (x0)] v q.1 v') : ∃ f' : Nat → Int64, okL l D cI cZ cQ cJ a qo y_L_empty b_L_empty 4 h_L_empty [.ref a.qv, .int (x0), .ref qo] f v m'.cd f' v' ∧ (m'.cd = 0 → f' 0 = r9.toInt64) := by
  rcases hV with ⟨h0, rm, hrb, hM⟩ | ⟨q, hq, hcd, rm, hrb, hM⟩
  · have hH := c_L_empty_y l D cI cZ cQ cJ a.qv qo x0 f rm r9 (vX cI cZ cQ a v) (vX cI cZ cQ a v') _ hrb hM (vX_adr _ _ _ _ _ _) rfl
    rw [List.append_nil, List.append_nil] at hH
    refine ⟨_, ⟨_, rbL_of hrb, ?_⟩, fun _ => uL_0 f _⟩
    rw [h0]
    exact hH
  · rcases List.mem_cons.mp hq with rfl | hq
    · have hH := c_L_empty_x1 l D cI cZ cQ cJ a.qv qo x0 f rm (vX cI cZ cQ a v) (vX cI cZ cQ a v') _ hrb hM (vX_adr _ _ _ _ _ _) rfl
      rw [List.append_nil, List.append_nil] at hH
      exact ⟨f, ⟨_, rbL_of hrb, by rw [hcd]; exact hH⟩, fun h9 => absurd (hcd.symm.trans h9) (by decide)⟩
    rcases List.mem_cons.mp hq with rfl | hq
    · have hH := c_L_empty_x2 l D cI cZ cQ cJ a.qv qo x0 f rm (vX cI cZ cQ a v) (vX cI cZ cQ a v') _ hrb hM (vX_adr _ _ _ _ _ _) rfl
      rw [List.append_nil, List.append_nil] at hH
      exact ⟨f, ⟨_, rbL_of hrb, by rw [hcd]; exact hH⟩, fun h9 => absurd (hcd.symm.trans h9) (by decide)⟩
    exact absurd hq List.not_mem_nil
theorem lo_rebuild {l : Launch} {D : va_G} {cI cZ cQ : ClassId} {a : VA} {v v' : VS} {m' : MS} {r9 : Int32} (qo : Nat) (cJ : ClassId) (f : Nat → Int64) (x0 : Int32) (x1 : Int32) (hV : (m'.cd = 0 ∧ okV l D cI cZ cQ a y_V_rebuild b_V_rebuild 5 .int [.ref a.qv, .int (x0), .int (x1)] v r9 v') ∨ ∃ q ∈ ([("java/lang/IllegalArgumentException", 1), ("java/lang/IllegalStateException", 2), ("java/lang/UnsupportedOperationException", 3)] : List (String × Int32)), m'.cd = q.2 ∧ thV l D cI cZ cQ a y_V_rebuild b_V_rebuild 5 (some .int) [.ref a.qv, .int (x0), .int (x1)] v q.1 v') : ∃ f' : Nat → Int64, okL l D cI cZ cQ cJ a qo y_L_rebuild b_L_rebuild 5 h_L_rebuild [.ref a.qv, .int (x0), .int (x1), .ref qo] f v m'.cd f' v' ∧ (m'.cd = 0 → f' 0 = r9.toInt64) := by
  rcases hV with ⟨h0, rm, hrb, hM⟩ | ⟨q, hq, hcd, rm, hrb, hM⟩
  · have hH := c_L_rebuild_y l D cI cZ cQ cJ a.qv qo x0 x1 f rm r9 (vX cI cZ cQ a v) (vX cI cZ cQ a v') _ hrb hM (vX_adr _ _ _ _ _ _) rfl
    rw [List.append_nil, List.append_nil] at hH
    refine ⟨_, ⟨_, rbL_of hrb, ?_⟩, fun _ => uL_0 f _⟩
    rw [h0]
    exact hH
  · rcases List.mem_cons.mp hq with rfl | hq
    · have hH := c_L_rebuild_x1 l D cI cZ cQ cJ a.qv qo x0 x1 f rm (vX cI cZ cQ a v) (vX cI cZ cQ a v') _ hrb hM (vX_adr _ _ _ _ _ _) rfl
      rw [List.append_nil, List.append_nil] at hH
      exact ⟨f, ⟨_, rbL_of hrb, by rw [hcd]; exact hH⟩, fun h9 => absurd (hcd.symm.trans h9) (by decide)⟩
    rcases List.mem_cons.mp hq with rfl | hq
    · have hH := c_L_rebuild_x2 l D cI cZ cQ cJ a.qv qo x0 x1 f rm (vX cI cZ cQ a v) (vX cI cZ cQ a v') _ hrb hM (vX_adr _ _ _ _ _ _) rfl
      rw [List.append_nil, List.append_nil] at hH
      exact ⟨f, ⟨_, rbL_of hrb, by rw [hcd]; exact hH⟩, fun h9 => absurd (hcd.symm.trans h9) (by decide)⟩
    rcases List.mem_cons.mp hq with rfl | hq
    · have hH := c_L_rebuild_x3 l D cI cZ cQ cJ a.qv qo x0 x1 f rm (vX cI cZ cQ a v) (vX cI cZ cQ a v') _ hrb hM (vX_adr _ _ _ _ _ _) rfl
      rw [List.append_nil, List.append_nil] at hH
      exact ⟨f, ⟨_, rbL_of hrb, by rw [hcd]; exact hH⟩, fun h9 => absurd (hcd.symm.trans h9) (by decide)⟩
    exact absurd hq List.not_mem_nil
theorem lo_stopAfter {l : Launch} {D : va_G} {cI cZ cQ : ClassId} {a : VA} {v v' : VS} {m' : MS} (qo : Nat) (cJ : ClassId) (f : Nat → Int64) (x0 : Int32) (hV : (m'.cd = 0 ∧ okU l D cI cZ cQ a y_V_stopAfter b_V_stopAfter 2 [.ref a.qv, .int (x0)] v v') ∨ ∃ q ∈ ([("java/lang/IllegalArgumentException", 1)] : List (String × Int32)), m'.cd = q.2 ∧ thV l D cI cZ cQ a y_V_stopAfter b_V_stopAfter 2 none [.ref a.qv, .int (x0)] v q.1 v') : okK l D cI cZ cQ cJ a y_L_stopAfter b_L_stopAfter 3 h_L_stopAfter [.ref a.qv, .int (x0)] v m'.cd v' := by
  rcases hV with ⟨h0, rm, hrb, hM⟩ | ⟨q, hq, hcd, rm, hrb, hM⟩
  · have hH := c_L_stopAfter_y l D cI cZ cQ cJ a.qv qo x0 f rm (vX cI cZ cQ a v) (vX cI cZ cQ a v') _ hrb hM (vX_adr _ _ _ _ _ _) rfl
    rw [List.append_nil, List.append_nil] at hH
    refine ⟨_, rbL_of hrb, ?_⟩
    rw [h0]
    exact hH
  · rcases List.mem_cons.mp hq with rfl | hq
    · have hH := c_L_stopAfter_x1 l D cI cZ cQ cJ a.qv qo x0 f rm (vX cI cZ cQ a v) (vX cI cZ cQ a v') _ hrb hM (vX_adr _ _ _ _ _ _) rfl
      rw [List.append_nil, List.append_nil] at hH
      exact ⟨_, rbL_of hrb, by rw [hcd]; exact hH⟩
    exact absurd hq List.not_mem_nil
theorem lo_restore {l : Launch} {D : va_G} {cI cZ cQ : ClassId} {a : VA} {v v' : VS} {m' : MS} {r9 : Int64} (qo : Nat) (cJ : ClassId) (f : Nat → Int64) (x0 : Int32) (x1 : Int32) (hV : (m'.cd = 0 ∧ okJ l D cI cZ cQ a y_V_restore b_V_restore 6 [.ref a.qv, .int (x0), .int (x1)] v r9 v') ∨ ∃ q ∈ ([("java/lang/IllegalArgumentException", 1), ("java/util/NoSuchElementException", 2), ("java/lang/IllegalStateException", 3)] : List (String × Int32)), m'.cd = q.2 ∧ thV l D cI cZ cQ a y_V_restore b_V_restore 6 (some .long) [.ref a.qv, .int (x0), .int (x1)] v q.1 v') : ∃ f' : Nat → Int64, okL l D cI cZ cQ cJ a qo y_L_restore b_L_restore 5 h_L_restore [.ref a.qv, .int (x0), .int (x1), .ref qo] f v m'.cd f' v' ∧ (m'.cd = 0 → f' 0 = r9) := by
  rcases hV with ⟨h0, rm, hrb, hM⟩ | ⟨q, hq, hcd, rm, hrb, hM⟩
  · have hH := c_L_restore_y l D cI cZ cQ cJ a.qv qo x0 x1 f rm r9 (vX cI cZ cQ a v) (vX cI cZ cQ a v') _ hrb hM (vX_adr _ _ _ _ _ _) rfl
    rw [List.append_nil, List.append_nil] at hH
    refine ⟨_, ⟨_, rbL_of hrb, ?_⟩, fun _ => uL_0 f _⟩
    rw [h0]
    exact hH
  · rcases List.mem_cons.mp hq with rfl | hq
    · have hH := c_L_restore_x1 l D cI cZ cQ cJ a.qv qo x0 x1 f rm (vX cI cZ cQ a v) (vX cI cZ cQ a v') _ hrb hM (vX_adr _ _ _ _ _ _) rfl
      rw [List.append_nil, List.append_nil] at hH
      exact ⟨f, ⟨_, rbL_of hrb, by rw [hcd]; exact hH⟩, fun h9 => absurd (hcd.symm.trans h9) (by decide)⟩
    rcases List.mem_cons.mp hq with rfl | hq
    · have hH := c_L_restore_x2 l D cI cZ cQ cJ a.qv qo x0 x1 f rm (vX cI cZ cQ a v) (vX cI cZ cQ a v') _ hrb hM (vX_adr _ _ _ _ _ _) rfl
      rw [List.append_nil, List.append_nil] at hH
      exact ⟨f, ⟨_, rbL_of hrb, by rw [hcd]; exact hH⟩, fun h9 => absurd (hcd.symm.trans h9) (by decide)⟩
    rcases List.mem_cons.mp hq with rfl | hq
    · have hH := c_L_restore_x3 l D cI cZ cQ cJ a.qv qo x0 x1 f rm (vX cI cZ cQ a v) (vX cI cZ cQ a v') _ hrb hM (vX_adr _ _ _ _ _ _) rfl
      rw [List.append_nil, List.append_nil] at hH
      exact ⟨f, ⟨_, rbL_of hrb, by rw [hcd]; exact hH⟩, fun h9 => absurd (hcd.symm.trans h9) (by decide)⟩
    exact absurd hq List.not_mem_nil
theorem lo_length {l : Launch} {D : va_G} {cI cZ cQ : ClassId} {a : VA} {v v' : VS} {m' : MS} {r9 : Int32} (qo : Nat) (cJ : ClassId) (f : Nat → Int64) (x0 : Int32) (hV : (m'.cd = 0 ∧ okV l D cI cZ cQ a y_V_length b_V_length 2 .int [.ref a.qv, .int (x0)] v r9 v') ∨ ∃ q ∈ ([("java/lang/IllegalArgumentException", 1)] : List (String × Int32)), m'.cd = q.2 ∧ thV l D cI cZ cQ a y_V_length b_V_length 2 (some .int) [.ref a.qv, .int (x0)] v q.1 v') : ∃ f' : Nat → Int64, okL l D cI cZ cQ cJ a qo y_L_length b_L_length 4 h_L_length [.ref a.qv, .int (x0), .ref qo] f v m'.cd f' v' ∧ (m'.cd = 0 → f' 0 = r9.toInt64) := by
  rcases hV with ⟨h0, rm, hrb, hM⟩ | ⟨q, hq, hcd, rm, hrb, hM⟩
  · have hH := c_L_length_y l D cI cZ cQ cJ a.qv qo x0 f rm r9 (vX cI cZ cQ a v) (vX cI cZ cQ a v') _ hrb hM (vX_adr _ _ _ _ _ _) rfl
    rw [List.append_nil, List.append_nil] at hH
    refine ⟨_, ⟨_, rbL_of hrb, ?_⟩, fun _ => uL_0 f _⟩
    rw [h0]
    exact hH
  · rcases List.mem_cons.mp hq with rfl | hq
    · have hH := c_L_length_x1 l D cI cZ cQ cJ a.qv qo x0 f rm (vX cI cZ cQ a v) (vX cI cZ cQ a v') _ hrb hM (vX_adr _ _ _ _ _ _) rfl
      rw [List.append_nil, List.append_nil] at hH
      exact ⟨f, ⟨_, rbL_of hrb, by rw [hcd]; exact hH⟩, fun h9 => absurd (hcd.symm.trans h9) (by decide)⟩
    exact absurd hq List.not_mem_nil
theorem lo_share {l : Launch} {D : va_G} {cI cZ cQ : ClassId} {a : VA} {v v' : VS} {m' : MS} {r9 : Int32} (qo : Nat) (cJ : ClassId) (f : Nat → Int64) (x0 : Int32) (x1 : Int32) (x2 : Int32) (hV : (m'.cd = 0 ∧ okV l D cI cZ cQ a y_V_share b_V_share 4 .int [.ref a.qv, .int (x0), .int (x1), .int (x2)] v r9 v') ∨ ∃ q ∈ ([("java/lang/IllegalArgumentException", 1), ("java/util/NoSuchElementException", 2), ("java/lang/IndexOutOfBoundsException", 3)] : List (String × Int32)), m'.cd = q.2 ∧ thV l D cI cZ cQ a y_V_share b_V_share 4 (some .int) [.ref a.qv, .int (x0), .int (x1), .int (x2)] v q.1 v') : ∃ f' : Nat → Int64, okL l D cI cZ cQ cJ a qo y_L_share b_L_share 6 h_L_share [.ref a.qv, .int (x0), .int (x1), .int (x2), .ref qo] f v m'.cd f' v' ∧ (m'.cd = 0 → f' 0 = r9.toInt64) := by
  rcases hV with ⟨h0, rm, hrb, hM⟩ | ⟨q, hq, hcd, rm, hrb, hM⟩
  · have hH := c_L_share_y l D cI cZ cQ cJ a.qv qo x0 x1 x2 f rm r9 (vX cI cZ cQ a v) (vX cI cZ cQ a v') _ hrb hM (vX_adr _ _ _ _ _ _) rfl
    rw [List.append_nil, List.append_nil] at hH
    refine ⟨_, ⟨_, rbL_of hrb, ?_⟩, fun _ => uL_0 f _⟩
    rw [h0]
    exact hH
  · rcases List.mem_cons.mp hq with rfl | hq
    · have hH := c_L_share_x1 l D cI cZ cQ cJ a.qv qo x0 x1 x2 f rm (vX cI cZ cQ a v) (vX cI cZ cQ a v') _ hrb hM (vX_adr _ _ _ _ _ _) rfl
      rw [List.append_nil, List.append_nil] at hH
      exact ⟨f, ⟨_, rbL_of hrb, by rw [hcd]; exact hH⟩, fun h9 => absurd (hcd.symm.trans h9) (by decide)⟩
    rcases List.mem_cons.mp hq with rfl | hq
    · have hH := c_L_share_x2 l D cI cZ cQ cJ a.qv qo x0 x1 x2 f rm (vX cI cZ cQ a v) (vX cI cZ cQ a v') _ hrb hM (vX_adr _ _ _ _ _ _) rfl
      rw [List.append_nil, List.append_nil] at hH
      exact ⟨f, ⟨_, rbL_of hrb, by rw [hcd]; exact hH⟩, fun h9 => absurd (hcd.symm.trans h9) (by decide)⟩
    rcases List.mem_cons.mp hq with rfl | hq
    · have hH := c_L_share_x3 l D cI cZ cQ cJ a.qv qo x0 x1 x2 f rm (vX cI cZ cQ a v) (vX cI cZ cQ a v') _ hrb hM (vX_adr _ _ _ _ _ _) rfl
      rw [List.append_nil, List.append_nil] at hH
      exact ⟨f, ⟨_, rbL_of hrb, by rw [hcd]; exact hH⟩, fun h9 => absurd (hcd.symm.trans h9) (by decide)⟩
    exact absurd hq List.not_mem_nil
theorem lo_forget {l : Launch} {D : va_G} {cI cZ cQ : ClassId} {a : VA} {v v' : VS} {m' : MS} {r9 : Int32} (qo : Nat) (cJ : ClassId) (f : Nat → Int64) (x0 : Int32) (hV : (m'.cd = 0 ∧ okV l D cI cZ cQ a y_V_forget b_V_forget 2 .int [.ref a.qv, .int (x0)] v r9 v') ∨ ∃ q ∈ ([("java/lang/IllegalArgumentException", 1), ("java/util/NoSuchElementException", 2), ("java/lang/IllegalStateException", 3)] : List (String × Int32)), m'.cd = q.2 ∧ thV l D cI cZ cQ a y_V_forget b_V_forget 2 (some .int) [.ref a.qv, .int (x0)] v q.1 v') : ∃ f' : Nat → Int64, okL l D cI cZ cQ cJ a qo y_L_forget b_L_forget 4 h_L_forget [.ref a.qv, .int (x0), .ref qo] f v m'.cd f' v' ∧ (m'.cd = 0 → f' 0 = r9.toInt64) := by
  rcases hV with ⟨h0, rm, hrb, hM⟩ | ⟨q, hq, hcd, rm, hrb, hM⟩
  · have hH := c_L_forget_y l D cI cZ cQ cJ a.qv qo x0 f rm r9 (vX cI cZ cQ a v) (vX cI cZ cQ a v') _ hrb hM (vX_adr _ _ _ _ _ _) rfl
    rw [List.append_nil, List.append_nil] at hH
    refine ⟨_, ⟨_, rbL_of hrb, ?_⟩, fun _ => uL_0 f _⟩
    rw [h0]
    exact hH
  · rcases List.mem_cons.mp hq with rfl | hq
    · have hH := c_L_forget_x1 l D cI cZ cQ cJ a.qv qo x0 f rm (vX cI cZ cQ a v) (vX cI cZ cQ a v') _ hrb hM (vX_adr _ _ _ _ _ _) rfl
      rw [List.append_nil, List.append_nil] at hH
      exact ⟨f, ⟨_, rbL_of hrb, by rw [hcd]; exact hH⟩, fun h9 => absurd (hcd.symm.trans h9) (by decide)⟩
    rcases List.mem_cons.mp hq with rfl | hq
    · have hH := c_L_forget_x2 l D cI cZ cQ cJ a.qv qo x0 f rm (vX cI cZ cQ a v) (vX cI cZ cQ a v') _ hrb hM (vX_adr _ _ _ _ _ _) rfl
      rw [List.append_nil, List.append_nil] at hH
      exact ⟨f, ⟨_, rbL_of hrb, by rw [hcd]; exact hH⟩, fun h9 => absurd (hcd.symm.trans h9) (by decide)⟩
    rcases List.mem_cons.mp hq with rfl | hq
    · have hH := c_L_forget_x3 l D cI cZ cQ cJ a.qv qo x0 f rm (vX cI cZ cQ a v) (vX cI cZ cQ a v') _ hrb hM (vX_adr _ _ _ _ _ _) rfl
      rw [List.append_nil, List.append_nil] at hH
      exact ⟨f, ⟨_, rbL_of hrb, by rw [hcd]; exact hH⟩, fun h9 => absurd (hcd.symm.trans h9) (by decide)⟩
    exact absurd hq List.not_mem_nil
theorem lo_need {l : Launch} {D : va_G} {cI cZ cQ : ClassId} {a : VA} {v v' : VS} {m' : MS} {r9 : Int32} (qo : Nat) (cJ : ClassId) (f : Nat → Int64) (x0 : Int32) (hV : (m'.cd = 0 ∧ okV l D cI cZ cQ a y_V_need b_V_need 2 .int [.ref a.qv, .int (x0)] v r9 v') ∨ ∃ q ∈ ([("java/lang/IllegalArgumentException", 1)] : List (String × Int32)), m'.cd = q.2 ∧ thV l D cI cZ cQ a y_V_need b_V_need 2 (some .int) [.ref a.qv, .int (x0)] v q.1 v') : ∃ f' : Nat → Int64, okL l D cI cZ cQ cJ a qo y_L_need b_L_need 4 h_L_need [.ref a.qv, .int (x0), .ref qo] f v m'.cd f' v' ∧ (m'.cd = 0 → f' 0 = r9.toInt64) := by
  rcases hV with ⟨h0, rm, hrb, hM⟩ | ⟨q, hq, hcd, rm, hrb, hM⟩
  · have hH := c_L_need_y l D cI cZ cQ cJ a.qv qo x0 f rm r9 (vX cI cZ cQ a v) (vX cI cZ cQ a v') _ hrb hM (vX_adr _ _ _ _ _ _) rfl
    rw [List.append_nil, List.append_nil] at hH
    refine ⟨_, ⟨_, rbL_of hrb, ?_⟩, fun _ => uL_0 f _⟩
    rw [h0]
    exact hH
  · rcases List.mem_cons.mp hq with rfl | hq
    · have hH := c_L_need_x1 l D cI cZ cQ cJ a.qv qo x0 f rm (vX cI cZ cQ a v) (vX cI cZ cQ a v') _ hrb hM (vX_adr _ _ _ _ _ _) rfl
      rw [List.append_nil, List.append_nil] at hH
      exact ⟨f, ⟨_, rbL_of hrb, by rw [hcd]; exact hH⟩, fun h9 => absurd (hcd.symm.trans h9) (by decide)⟩
    exact absurd hq List.not_mem_nil
theorem lo_message {l : Launch} {D : va_G} {cI cZ cQ : ClassId} {a : VA} {v v' : VS} {m' : MS} {r9 : Int32} (qo : Nat) (cJ : ClassId) (f : Nat → Int64) (x0 : Int32) (x1 : Int32) (hV : (m'.cd = 0 ∧ okV l D cI cZ cQ a y_V_message b_V_message 3 .int [.ref a.qv, .int (x0), .int (x1)] v r9 v') ∨ ∃ q ∈ ([("java/lang/IndexOutOfBoundsException", 1), ("java/lang/IllegalArgumentException", 2)] : List (String × Int32)), m'.cd = q.2 ∧ thV l D cI cZ cQ a y_V_message b_V_message 3 (some .int) [.ref a.qv, .int (x0), .int (x1)] v q.1 v') : ∃ f' : Nat → Int64, okL l D cI cZ cQ cJ a qo y_L_message b_L_message 5 h_L_message [.ref a.qv, .int (x0), .int (x1), .ref qo] f v m'.cd f' v' ∧ (m'.cd = 0 → f' 0 = r9.toInt64) := by
  rcases hV with ⟨h0, rm, hrb, hM⟩ | ⟨q, hq, hcd, rm, hrb, hM⟩
  · have hH := c_L_message_y l D cI cZ cQ cJ a.qv qo x0 x1 f rm r9 (vX cI cZ cQ a v) (vX cI cZ cQ a v') _ hrb hM (vX_adr _ _ _ _ _ _) rfl
    rw [List.append_nil, List.append_nil] at hH
    refine ⟨_, ⟨_, rbL_of hrb, ?_⟩, fun _ => uL_0 f _⟩
    rw [h0]
    exact hH
  · rcases List.mem_cons.mp hq with rfl | hq
    · have hH := c_L_message_x1 l D cI cZ cQ cJ a.qv qo x0 x1 f rm (vX cI cZ cQ a v) (vX cI cZ cQ a v') _ hrb hM (vX_adr _ _ _ _ _ _) rfl
      rw [List.append_nil, List.append_nil] at hH
      exact ⟨f, ⟨_, rbL_of hrb, by rw [hcd]; exact hH⟩, fun h9 => absurd (hcd.symm.trans h9) (by decide)⟩
    rcases List.mem_cons.mp hq with rfl | hq
    · have hH := c_L_message_x2 l D cI cZ cQ cJ a.qv qo x0 x1 f rm (vX cI cZ cQ a v) (vX cI cZ cQ a v') _ hrb hM (vX_adr _ _ _ _ _ _) rfl
      rw [List.append_nil, List.append_nil] at hH
      exact ⟨f, ⟨_, rbL_of hrb, by rw [hcd]; exact hH⟩, fun h9 => absurd (hcd.symm.trans h9) (by decide)⟩
    exact absurd hq List.not_mem_nil
