section
/-- a private method of a class that the tables say can be made, by its rows of tables_1 -/
def lw_okq (q : MethodName × Nat) : Prop := (q.1.cls ≠ "java/lang/invoke/MethodHandle" ∧ q.1.cls ≠ "java/lang/invoke/VarHandle") ∧ Cond.instantiable q.1.cls q.2 ∈ tables_1 ∧ Cond.privateMethod q.1 ∈ tables_1 ∧ Cond.instanceMethod q.1 ∈ tables_1
theorem lw_p0 : lw_okq (⟨"SplitVault", "keptFiles", "()I"⟩, 11) := ⟨⟨by decide +kernel, by decide +kernel⟩, List.mem_of_getElem? (i := 19) (by decide +kernel), List.mem_of_getElem? (i := 188) (by decide +kernel), List.mem_of_getElem? (i := 189) (by decide +kernel)⟩
theorem lw_p1 : lw_okq (⟨"java/lang/Throwable", "fillInStackTrace", "(I)Ljava/lang/Throwable;"⟩, 6) := ⟨⟨by decide +kernel, by decide +kernel⟩, List.mem_of_getElem? (i := 252) (by decide +kernel), List.mem_of_getElem? (i := 250) (by decide +kernel), List.mem_of_getElem? (i := 251) (by decide +kernel)⟩
theorem lw_p2 : lw_okq (⟨"SplitVault", "checkAllFilled", "()V"⟩, 11) := ⟨⟨by decide +kernel, by decide +kernel⟩, List.mem_of_getElem? (i := 19) (by decide +kernel), List.mem_of_getElem? (i := 333) (by decide +kernel), List.mem_of_getElem? (i := 334) (by decide +kernel)⟩
theorem lw_p3 : lw_okq (⟨"SplitVault", "filledBoxes", "()I"⟩, 11) := ⟨⟨by decide +kernel, by decide +kernel⟩, List.mem_of_getElem? (i := 19) (by decide +kernel), List.mem_of_getElem? (i := 337) (by decide +kernel), List.mem_of_getElem? (i := 338) (by decide +kernel)⟩
theorem lw_p4 : lw_okq (⟨"SplitVault", "checkNoneStopped", "()V"⟩, 11) := ⟨⟨by decide +kernel, by decide +kernel⟩, List.mem_of_getElem? (i := 19) (by decide +kernel), List.mem_of_getElem? (i := 342) (by decide +kernel), List.mem_of_getElem? (i := 343) (by decide +kernel)⟩
theorem lw_p5 : lw_okq (⟨"SplitVault", "takenPerByte", "(I)I"⟩, 11) := ⟨⟨by decide +kernel, by decide +kernel⟩, List.mem_of_getElem? (i := 19) (by decide +kernel), List.mem_of_getElem? (i := 347) (by decide +kernel), List.mem_of_getElem? (i := 348) (by decide +kernel)⟩
theorem lw_p6 : lw_okq (⟨"SplitVault", "checkPool", "(I)V"⟩, 11) := ⟨⟨by decide +kernel, by decide +kernel⟩, List.mem_of_getElem? (i := 19) (by decide +kernel), List.mem_of_getElem? (i := 351) (by decide +kernel), List.mem_of_getElem? (i := 352) (by decide +kernel)⟩
theorem lw_p7 : lw_okq (⟨"SplitVault", "change", "(I)V"⟩, 11) := ⟨⟨by decide +kernel, by decide +kernel⟩, List.mem_of_getElem? (i := 19) (by decide +kernel), List.mem_of_getElem? (i := 363) (by decide +kernel), List.mem_of_getElem? (i := 364) (by decide +kernel)⟩
theorem lw_p8 : lw_okq (⟨"SplitVault", "adoptFile", "(I)V"⟩, 11) := ⟨⟨by decide +kernel, by decide +kernel⟩, List.mem_of_getElem? (i := 19) (by decide +kernel), List.mem_of_getElem? (i := 382) (by decide +kernel), List.mem_of_getElem? (i := 383) (by decide +kernel)⟩
theorem lw_p9 : lw_okq (⟨"SplitVault", "adoptShares", "(II)V"⟩, 11) := ⟨⟨by decide +kernel, by decide +kernel⟩, List.mem_of_getElem? (i := 19) (by decide +kernel), List.mem_of_getElem? (i := 386) (by decide +kernel), List.mem_of_getElem? (i := 387) (by decide +kernel)⟩
theorem lw_p10 : lw_okq (⟨"SplitVault", "keptBytes", "()I"⟩, 11) := ⟨⟨by decide +kernel, by decide +kernel⟩, List.mem_of_getElem? (i := 19) (by decide +kernel), List.mem_of_getElem? (i := 398) (by decide +kernel), List.mem_of_getElem? (i := 399) (by decide +kernel)⟩
theorem lw_p11 : lw_okq (⟨"SplitVault", "checkBox", "(I)V"⟩, 11) := ⟨⟨by decide +kernel, by decide +kernel⟩, List.mem_of_getElem? (i := 19) (by decide +kernel), List.mem_of_getElem? (i := 409) (by decide +kernel), List.mem_of_getElem? (i := 410) (by decide +kernel)⟩
theorem lw_p12 : lw_okq (⟨"SplitVault", "chooseHelpers", "(I)V"⟩, 11) := ⟨⟨by decide +kernel, by decide +kernel⟩, List.mem_of_getElem? (i := 19) (by decide +kernel), List.mem_of_getElem? (i := 427) (by decide +kernel), List.mem_of_getElem? (i := 428) (by decide +kernel)⟩
theorem lw_p13 : lw_okq (⟨"SplitVault", "rebuildByte", "(II)V"⟩, 11) := ⟨⟨by decide +kernel, by decide +kernel⟩, List.mem_of_getElem? (i := 19) (by decide +kernel), List.mem_of_getElem? (i := 447) (by decide +kernel), List.mem_of_getElem? (i := 448) (by decide +kernel)⟩
theorem lw_p14 : lw_okq (⟨"SplitVault", "checkKept", "(I)V"⟩, 11) := ⟨⟨by decide +kernel, by decide +kernel⟩, List.mem_of_getElem? (i := 19) (by decide +kernel), List.mem_of_getElem? (i := 476) (by decide +kernel), List.mem_of_getElem? (i := 477) (by decide +kernel)⟩
theorem lw_p15 : lw_okq (⟨"SplitVaultModel", "filled", "()I"⟩, 26) := ⟨⟨by decide +kernel, by decide +kernel⟩, List.mem_of_getElem? (i := 565) (by decide +kernel), List.mem_of_getElem? (i := 670) (by decide +kernel), List.mem_of_getElem? (i := 671) (by decide +kernel)⟩
def lw_privs_1 : List (MethodName × Nat) := [(⟨"SplitVault", "keptFiles", "()I"⟩, 11), (⟨"java/lang/Throwable", "fillInStackTrace", "(I)Ljava/lang/Throwable;"⟩, 6), (⟨"SplitVault", "checkAllFilled", "()V"⟩, 11), (⟨"SplitVault", "filledBoxes", "()I"⟩, 11), (⟨"SplitVault", "checkNoneStopped", "()V"⟩, 11), (⟨"SplitVault", "takenPerByte", "(I)I"⟩, 11), (⟨"SplitVault", "checkPool", "(I)V"⟩, 11), (⟨"SplitVault", "change", "(I)V"⟩, 11), (⟨"SplitVault", "adoptFile", "(I)V"⟩, 11), (⟨"SplitVault", "adoptShares", "(II)V"⟩, 11), (⟨"SplitVault", "keptBytes", "()I"⟩, 11), (⟨"SplitVault", "checkBox", "(I)V"⟩, 11), (⟨"SplitVault", "chooseHelpers", "(I)V"⟩, 11), (⟨"SplitVault", "rebuildByte", "(II)V"⟩, 11), (⟨"SplitVault", "checkKept", "(I)V"⟩, 11), (⟨"SplitVaultModel", "filled", "()I"⟩, 26)]
theorem lw_r1 : ∀ q ∈ lw_privs_1, lw_okq q := List.forall_mem_cons.mpr ⟨lw_p0, List.forall_mem_cons.mpr ⟨lw_p1, List.forall_mem_cons.mpr ⟨lw_p2, List.forall_mem_cons.mpr ⟨lw_p3, List.forall_mem_cons.mpr ⟨lw_p4, List.forall_mem_cons.mpr ⟨lw_p5, List.forall_mem_cons.mpr ⟨lw_p6, List.forall_mem_cons.mpr ⟨lw_p7, List.forall_mem_cons.mpr ⟨lw_p8, List.forall_mem_cons.mpr ⟨lw_p9, List.forall_mem_cons.mpr ⟨lw_p10, List.forall_mem_cons.mpr ⟨lw_p11, List.forall_mem_cons.mpr ⟨lw_p12, List.forall_mem_cons.mpr ⟨lw_p13, List.forall_mem_cons.mpr ⟨lw_p14, List.forall_mem_cons.mpr ⟨lw_p15, fun _ h => absurd h List.not_mem_nil⟩⟩⟩⟩⟩⟩⟩⟩⟩⟩⟩⟩⟩⟩⟩⟩
theorem lw_p16 : lw_okq (⟨"SplitVaultModel", "copyFresh", "()V"⟩, 26) := ⟨⟨by decide +kernel, by decide +kernel⟩, List.mem_of_getElem? (i := 565) (by decide +kernel), List.mem_of_getElem? (i := 674) (by decide +kernel), List.mem_of_getElem? (i := 675) (by decide +kernel)⟩
theorem lw_p17 : lw_okq (⟨"SplitVaultModel", "run", "(II)I"⟩, 26) := ⟨⟨by decide +kernel, by decide +kernel⟩, List.mem_of_getElem? (i := 565) (by decide +kernel), List.mem_of_getElem? (i := 678) (by decide +kernel), List.mem_of_getElem? (i := 679) (by decide +kernel)⟩
theorem lw_p18 : lw_okq (⟨"SplitVaultModel", "take", "(I)V"⟩, 26) := ⟨⟨by decide +kernel, by decide +kernel⟩, List.mem_of_getElem? (i := 565) (by decide +kernel), List.mem_of_getElem? (i := 682) (by decide +kernel), List.mem_of_getElem? (i := 683) (by decide +kernel)⟩
theorem lw_p19 : lw_okq (⟨"SplitVaultModel", "build", "(II)V"⟩, 26) := ⟨⟨by decide +kernel, by decide +kernel⟩, List.mem_of_getElem? (i := 565) (by decide +kernel), List.mem_of_getElem? (i := 686) (by decide +kernel), List.mem_of_getElem? (i := 687) (by decide +kernel)⟩
theorem lw_p20 : lw_okq (⟨"SplitVaultModel", "valueAt", "([III)I"⟩, 26) := ⟨⟨by decide +kernel, by decide +kernel⟩, List.mem_of_getElem? (i := 565) (by decide +kernel), List.mem_of_getElem? (i := 690) (by decide +kernel), List.mem_of_getElem? (i := 691) (by decide +kernel)⟩
theorem lw_p21 : lw_okq (⟨"SplitVaultModel", "nextTaken", "()I"⟩, 26) := ⟨⟨by decide +kernel, by decide +kernel⟩, List.mem_of_getElem? (i := 565) (by decide +kernel), List.mem_of_getElem? (i := 700) (by decide +kernel), List.mem_of_getElem? (i := 701) (by decide +kernel)⟩
theorem lw_p22 : lw_okq (⟨"SplitVaultModel", "send", "(III)V"⟩, 26) := ⟨⟨by decide +kernel, by decide +kernel⟩, List.mem_of_getElem? (i := 565) (by decide +kernel), List.mem_of_getElem? (i := 704) (by decide +kernel), List.mem_of_getElem? (i := 705) (by decide +kernel)⟩
theorem lw_p23 : lw_okq (⟨"SplitVaultModel", "deal", "(II)V"⟩, 26) := ⟨⟨by decide +kernel, by decide +kernel⟩, List.mem_of_getElem? (i := 565) (by decide +kernel), List.mem_of_getElem? (i := 708) (by decide +kernel), List.mem_of_getElem? (i := 709) (by decide +kernel)⟩
theorem lw_p24 : lw_okq (⟨"SplitVaultModel", "flip", "()V"⟩, 26) := ⟨⟨by decide +kernel, by decide +kernel⟩, List.mem_of_getElem? (i := 565) (by decide +kernel), List.mem_of_getElem? (i := 712) (by decide +kernel), List.mem_of_getElem? (i := 713) (by decide +kernel)⟩
theorem lw_p25 : lw_okq (⟨"SplitVaultModel", "tidy", "()V"⟩, 26) := ⟨⟨by decide +kernel, by decide +kernel⟩, List.mem_of_getElem? (i := 565) (by decide +kernel), List.mem_of_getElem? (i := 716) (by decide +kernel), List.mem_of_getElem? (i := 717) (by decide +kernel)⟩
theorem lw_p26 : lw_okq (⟨"SplitVaultModel", "total", "()I"⟩, 26) := ⟨⟨by decide +kernel, by decide +kernel⟩, List.mem_of_getElem? (i := 565) (by decide +kernel), List.mem_of_getElem? (i := 724) (by decide +kernel), List.mem_of_getElem? (i := 725) (by decide +kernel)⟩
theorem lw_p27 : lw_okq (⟨"SplitVaultModel", "isBox", "(I)Z"⟩, 26) := ⟨⟨by decide +kernel, by decide +kernel⟩, List.mem_of_getElem? (i := 565) (by decide +kernel), List.mem_of_getElem? (i := 732) (by decide +kernel), List.mem_of_getElem? (i := 733) (by decide +kernel)⟩
theorem lw_p28 : lw_okq (⟨"SplitVaultModel", "some", "(I)I"⟩, 26) := ⟨⟨by decide +kernel, by decide +kernel⟩, List.mem_of_getElem? (i := 565) (by decide +kernel), List.mem_of_getElem? (i := 740) (by decide +kernel), List.mem_of_getElem? (i := 741) (by decide +kernel)⟩
theorem lw_p29 : lw_okq (⟨"SplitVaultModel", "kept", "()I"⟩, 26) := ⟨⟨by decide +kernel, by decide +kernel⟩, List.mem_of_getElem? (i := 565) (by decide +kernel), List.mem_of_getElem? (i := 772) (by decide +kernel), List.mem_of_getElem? (i := 773) (by decide +kernel)⟩
def lw_privs_2 : List (MethodName × Nat) := [(⟨"SplitVaultModel", "copyFresh", "()V"⟩, 26), (⟨"SplitVaultModel", "run", "(II)I"⟩, 26), (⟨"SplitVaultModel", "take", "(I)V"⟩, 26), (⟨"SplitVaultModel", "build", "(II)V"⟩, 26), (⟨"SplitVaultModel", "valueAt", "([III)I"⟩, 26), (⟨"SplitVaultModel", "nextTaken", "()I"⟩, 26), (⟨"SplitVaultModel", "send", "(III)V"⟩, 26), (⟨"SplitVaultModel", "deal", "(II)V"⟩, 26), (⟨"SplitVaultModel", "flip", "()V"⟩, 26), (⟨"SplitVaultModel", "tidy", "()V"⟩, 26), (⟨"SplitVaultModel", "total", "()I"⟩, 26), (⟨"SplitVaultModel", "isBox", "(I)Z"⟩, 26), (⟨"SplitVaultModel", "some", "(I)I"⟩, 26), (⟨"SplitVaultModel", "kept", "()I"⟩, 26)]
theorem lw_r2 : ∀ q ∈ lw_privs_2, lw_okq q := List.forall_mem_cons.mpr ⟨lw_p16, List.forall_mem_cons.mpr ⟨lw_p17, List.forall_mem_cons.mpr ⟨lw_p18, List.forall_mem_cons.mpr ⟨lw_p19, List.forall_mem_cons.mpr ⟨lw_p20, List.forall_mem_cons.mpr ⟨lw_p21, List.forall_mem_cons.mpr ⟨lw_p22, List.forall_mem_cons.mpr ⟨lw_p23, List.forall_mem_cons.mpr ⟨lw_p24, List.forall_mem_cons.mpr ⟨lw_p25, List.forall_mem_cons.mpr ⟨lw_p26, List.forall_mem_cons.mpr ⟨lw_p27, List.forall_mem_cons.mpr ⟨lw_p28, List.forall_mem_cons.mpr ⟨lw_p29, fun _ h => absurd h List.not_mem_nil⟩⟩⟩⟩⟩⟩⟩⟩⟩⟩⟩⟩⟩⟩
def lw_privs : List (MethodName × Nat) := lw_privs_1 ++ (lw_privs_2)
def lw_tbl : List Cond := k2_sels lw_privs ++ tables_1
theorem lw_privs_ok : ∀ q ∈ lw_privs, lw_okq q := by
  show ∀ q ∈ lw_privs_1 ++ (lw_privs_2), lw_okq q
  exact List.forall_mem_append.mpr ⟨lw_r1, lw_r2⟩
end
section
/-! [[I: what the tables say of it (the printed rows of new T[n][m] name these two words) -/
def va_AOA (t : FieldType) (U : State) : Prop := (Cond.arrayOver (.array t)).before #[] U = true
theorem va_AOA.use {t : FieldType} {A : Array Value} {U : State} (h : va_AOA t U) : (Cond.arrayOver (.array t)).before A U = true := h
/-! ===== BEGIN words of one list among another's, by their places ===== -/
theorem goodIn_r {big : List Cond} (ws : List Cond) (ps : List Nat) (hp : ws = ps.filterMap (fun i => big[i]?)) (h : ws.all goodWord = true) : GoodIn big ws := by
  intro w hw
  have h1 := List.all_eq_true.mp h w hw
  rw [hp] at hw
  obtain ⟨i, -, hi⟩ := List.mem_filterMap.mp hw
  have hm : w ∈ big := by first | exact List.mem_of_getElem? hi | exact List.getElem?_mem hi
  exact ⟨hm, good_of_word h1⟩
theorem goodIn_app {big a b : List Cond} (ha : GoodIn big a) (hb : GoodIn big b) : GoodIn big (a ++ b) := fun w h => (List.mem_append.mp h).elim (ha w) (hb w)
theorem goodIn_ca {big a b : List Cond} {c : Cond} (ha : GoodIn big (c :: a)) (hb : GoodIn big b) : GoodIn big (c :: (a ++ b)) := fun w h => (List.mem_cons.mp h).elim (fun e => ha w (List.mem_cons.mpr (Or.inl e))) (fun h => (List.mem_append.mp h).elim (fun h => ha w (List.mem_cons.mpr (Or.inr h))) (hb w))
theorem goodIn_sub {big ws : List Cond} (hm : ∀ w ∈ ws, w ∈ big) (h : ws.all goodWord = true) : GoodIn big ws := fun w hw => ⟨hm w hw, good_of_word (List.all_eq_true.mp h w hw)⟩
/-! ===== END ===== -/

/-! ===== BEGIN new T[n][m]: the outer array a place, the inner ones among the pooled ===== -/
/-- f, but v at every address of l -/
def vr_up {α : Type} (f : Nat → α) (l : List Nat) (v : α) : Nat → α := fun a => if a ∈ l then v else f a
theorem vr_up_in {α : Type} {f : Nat → α} {l : List Nat} {v : α} {a : Nat} (h : a ∈ l) : vr_up f l v a = v := if_pos h
theorem vr_up_ne {α : Type} {f : Nat → α} {l : List Nat} {v : α} {a : Nat} (h : a ∉ l) : vr_up f l v a = f a := if_neg h
theorem vr_rows {L l : List Nat} {f : Nat → va_E} {e : va_E} (h : ∀ a, a ∈ l → a ∉ L) : va_pl L f ++ l.map (fun a => (a, e)) = va_pl (L ++ l) (vr_up f l e) := by
  unfold va_pl
  rw [List.map_append]
  congr 1
  · apply List.map_congr_left
    intro a ha
    rw [vr_up_ne (fun q => h a q ha)]
  · apply List.map_congr_left
    intro a ha
    rw [vr_up_in ha]
theorem vr_lay {X rows : va_W} {x : Nat × va_E} {pl : va_W} {D : va_G} {cl : List vw_C} {H : Heap} (hP : va_P D cl (((X ++ pl) ++ [x]) ++ rows) H) : va_P D cl ((X ++ [x]) ++ (pl ++ rows)) H := by
  rw [List.append_assoc (X ++ pl)] at hP
  have h := va_P.swap hP
  rw [← List.append_assoc X] at h
  have h2 := va_P.swap h
  rw [List.append_assoc (X ++ [x])] at h2
  exact h2
theorem vr_layD {X rows : va_W} {x : Nat × va_E} {pl : va_W} {A : Nat → Prop} (hD : va_D A (((X ++ pl) ++ [x]) ++ rows)) : va_D A ((X ++ [x]) ++ (pl ++ rows)) := by
  rw [List.append_assoc (X ++ pl)] at hD
  have h := va_D.swap hD
  rw [← List.append_assoc X] at h
  have h2 := va_D.swap h
  rw [List.append_assoc (X ++ [x])] at h2
  exact h2
theorem vr_outer (c : ClassId) (N h0 : Nat) : ∀ i : Nat, Jvm.Free.Multi.outerC c N h0 i = arrV c N (fun j => va_rf (if j < i then some (h0 + 1 + j) else none))
  | 0 => by
    show ({ cls := c, slots := Array.replicate N .null, vm := .none } : Cell) = _
    rw [arrV_new]
    refine congrArg (arrV c N) (funext fun j => ?_)
    simp [va_rf]
  | i + 1 => by
    show (Jvm.Free.Multi.outerC c N h0 i).setSlot i (.ref (h0 + 1 + i)) = _
    rw [vr_outer c N h0 i, arrV_store]
    refine congrArg (arrV c N) (funext fun j => ?_)
    by_cases e : j = i
    · subst e
      simp [updV, va_rf]
    · by_cases h : j < i
      · simp [updV, e, h, Nat.lt_succ_of_lt h]
      · simp [updV, e, h, show ¬ j < i + 1 by omega]
section VGM
variable {p : Program} {l : Launch} {e : Env} {R : Room} {s : State} {m : MethodId} {args : Array Value} {below : List Frame} {meth : Method} {c : Code} {H : Heap} {locs : List Loc} {cells slots : Nat} {Q : State → Prop}
variable {cc : ByteArray} {pc : Nat} {ls : Array Slot} {rest : List Value} {D : va_G} {cl : List vw_C} {A : Nat → Prop} {a : Nat} {tys : List (ClassId × FieldType)} {ws : va_W} {H0 : Heap}
theorem va_mna {X : va_W} {L : List Nat} {f : Nat → va_E} {cc : ByteArray} (hexec : p.tables.exec = Jvm.exec) (hb : c.code = cc) {own : String} {index : Nat} {ty : FieldType} {cy : ClassId} (hown : s.vm.findClass own = some m.cls) (hclink : (Cond.classLink own index ("[" ++ (FieldType.array ty).toString)).before args s = true) (hover : va_AOA ty s) (harr : (Cond.arrayClass ty).before args s = true) (hcy : s.vm.findClass (FieldType.array ty).toString = some cy)
    (hK : va_K D cl tys s) (hP : va_P D cl (X ++ va_pl L f) H) (hD : va_D A (X ++ va_pl L f)) (hS : va_S A H0 H locs) (hA : ∀ q, H0.size ≤ q → A q) {n k : Int32} {N' K' : Nat} {z : vp_A} (hn : ¬ n < 0) (hk : ¬ k < 0) (hN : n.toNatClampNeg = N') (hM : k.toNatClampNeg = K')
    (hb1 : N' * 4 ≤ 536870912) (hb2 : K' * componentBytes ty ≤ 536870912) (hb3 : K' ≤ 536870912) (hdf : fits ty (defaultValue ty) = true) (hdd : (defaultValue ty).isDefault = true) (hcells : cells + (1 + N') ≤ R.cells) (hslots : slots + (N' + N' * K') ≤ R.slots) (hz : ∀ c : ClassId, Jvm.Free.Multi.innerC c K' (defaultValue ty) = vp_cell c z) (hdg : decode cc pc = .ok (.multianewarray index 2, 4))
    (kk : ∀ (q : Nat) (r : Nat → Nat) (cA : ClassId) (H1 : Heap), (∀ i j : Nat, i < N' → j < N' → r i = r j → i = j) → (∀ i : Nat, i < N' → r i ∉ L) → va_K D cl (tys ++ [(cA, .array ty)]) s →
      va_P D cl ((X ++ [(q, .inl (cA, N', .inr (.inr (.inr (.inr (fun i => if i < N' then some (r i) else none))))))]) ++ va_pl (L ++ (List.range N').map r) (vr_up f ((List.range N').map r) (.inl (cy, z)))) H1 → va_D A ((X ++ [(q, .inl (cA, N', .inr (.inr (.inr (.inr (fun i => if i < N' then some (r i) else none))))))]) ++ va_pl (L ++ (List.range N').map r) (vr_up f ((List.range N').map r) (.inl (cy, z)))) → va_S A H0 H1 locs →
      W p l e R s m args below meth c H1 locs (cells + 1 + N') (slots + N' + N' * K') Q (F0 m (pc + 4) ls (.ref q :: rest))) : W p l e R s m args below meth c H locs cells slots Q (F0 m pc ls (.int k :: .int n :: rest)) := by
  subst hN
  subst hM
  intro T hT Xs
  obtain ⟨vm₁, cA, comp, -, fA, fC, hO, -, X', step⟩ := Xs.multianewarray2F hexec hown hclink (va_AOA.use hover) harr (g := F0 m pc ls (.int k :: .int n :: rest)) rfl (by rw [hb]; exact hdg) rfl hn hk hb1 hb2 hb3 hdf hdd hcells hslots
  have ec : some cy = some comp := hcy.symm.trans fC
  cases ec
  generalize hF : Jvm.Free.Multi.fill (T.setVm vm₁) cA cy n.toNatClampNeg k.toNatClampNeg (defaultValue ty) n.toNatClampNeg = F at X' step
  have hTh : (T.setVm vm₁).heap = H := hT
  obtain ⟨f1, f2, -, -⟩ := Jvm.Free.Multi.fill_facts (T.setVm vm₁) cA cy n.toNatClampNeg k.toNatClampNeg (defaultValue ty) n.toNatClampNeg
  rw [hF, hTh] at f1 f2
  have hold : ∀ x : Nat, x < H.size → F.heap[x]? = H[x]? := fun x hx => by
    have := Jvm.Free.Multi.fill_old (T.setVm vm₁) cA cy n.toNatClampNeg k.toNatClampNeg (defaultValue ty) (a := x) (by rw [hTh]; exact hx) n.toNatClampNeg
    rw [hF, hTh] at this
    exact this
  have hrow : ∀ j : Nat, j < n.toNatClampNeg → F.heap[H.size + 1 + j]? = some (vp_cell cy z) := fun j hj => by
    have := Jvm.Free.Multi.fill_inner (T.setVm vm₁) cA cy n.toNatClampNeg k.toNatClampNeg (defaultValue ty) n.toNatClampNeg j hj
    rw [hF, hTh, hz] at this
    exact this
  have hout : Jvm.Free.Multi.outerC cA n.toNatClampNeg H.size n.toNatClampNeg = vp_cell cA (n.toNatClampNeg, .inr (.inr (.inr (.inr (fun i => if i < n.toNatClampNeg then some (H.size + 1 + i) else none))))) := by
    rw [vp_cell_q]
    exact vr_outer cA n.toNatClampNeg H.size n.toNatClampNeg
  rw [hout] at f2
  have hlt : ∀ a, a ∈ L → a < H.size := fun a ha => by
    obtain ⟨k9, hk9⟩ := va_pl_get (X := X) (f := f) ha
    exact (hP k9 _ hk9).lt
  have hnl : ∀ i : Nat, i < n.toNatClampNeg → H.size + 1 + i ∉ L := fun i _ h => by
    have := hlt _ h
    omega
  have hnm : ∀ a, a ∈ (List.range n.toNatClampNeg).map (fun i => H.size + 1 + i) → a ∉ L := fun a ha h => by
    obtain ⟨i, -, rfl⟩ := List.mem_map.mp ha
    have := hlt _ h
    omega
  have hP0 : va_P D cl (X ++ va_pl L f) F.heap := hP.kept (fun k9 x hx => hold x.1 ((hP k9 x hx).lt))
  have hP1 : va_P D cl ((X ++ va_pl L f) ++ [(H.size, .inl (cA, n.toNatClampNeg, .inr (.inr (.inr (.inr (fun i => if i < n.toNatClampNeg then some (H.size + 1 + i) else none))))))]) F.heap := hP0.app (fun k9 x hx => by
    have h0 : k9 < 1 := (List.getElem?_eq_some_iff.mp hx).1
    rw [show k9 = 0 by omega] at hx
    cases hx
    exact f2)
  have hP2 : va_P D cl (((X ++ va_pl L f) ++ [(H.size, .inl (cA, n.toNatClampNeg, .inr (.inr (.inr (.inr (fun i => if i < n.toNatClampNeg then some (H.size + 1 + i) else none))))))]) ++ ((List.range n.toNatClampNeg).map (fun i => H.size + 1 + i)).map (fun a => (a, .inl (cy, z)))) F.heap := hP1.app (fun k9 x hx => by
    obtain ⟨a, ha, rfl⟩ := List.mem_map.mp (List.mem_of_getElem? hx)
    obtain ⟨i, hi, rfl⟩ := List.mem_map.mp ha
    exact hrow i (List.mem_range.mp hi))
  have hD2 : va_D A (((X ++ va_pl L f) ++ [(H.size, .inl (cA, n.toNatClampNeg, .inr (.inr (.inr (.inr (fun i => if i < n.toNatClampNeg then some (H.size + 1 + i) else none))))))]) ++ ((List.range n.toNatClampNeg).map (fun i => H.size + 1 + i)).map (fun a => (a, .inl (cy, z)))) := by
    have hD1 := hD.push (e := .inl (cA, n.toNatClampNeg, .inr (.inr (.inr (.inr (fun i => if i < n.toNatClampNeg then some (H.size + 1 + i) else none)))))) hP rfl (hA _ hS.1)
    generalize hW1 : (X ++ va_pl L f) ++ [(H.size, .inl (cA, n.toNatClampNeg, .inr (.inr (.inr (.inr (fun i => if i < n.toNatClampNeg then some (H.size + 1 + i) else none))))))] = W1 at hD1 hP1 ⊢
    have hle : ∀ (k9 : Nat) (x : Nat × va_E), W1[k9]? = some x → x.1 ≤ H.size := fun k9 x hx => by
      rw [← hW1] at hx
      by_cases hl : k9 < (X ++ va_pl L f).length
      · rw [List.getElem?_append_left hl] at hx
        exact Nat.le_of_lt ((hP k9 x hx).lt)
      · rw [List.getElem?_append_right (by omega)] at hx
        have h0 : k9 - (X ++ va_pl L f).length < 1 := (List.getElem?_eq_some_iff.mp hx).1
        rw [show k9 - (X ++ va_pl L f).length = 0 by omega] at hx
        cases hx
        exact Nat.le_refl _
    have hr : ∀ (k9 : Nat) (x : Nat × va_E), (((List.range n.toNatClampNeg).map (fun i => H.size + 1 + i)).map (fun a => ((a, .inl (cy, z)) : Nat × va_E)))[k9]? = some x → x.1 = H.size + 1 + k9 := fun k9 x hx => by
      rw [List.getElem?_map, List.getElem?_map] at hx
      by_cases h9 : k9 < n.toNatClampNeg
      · rw [List.getElem?_range h9] at hx
        cases hx
        rfl
      · have hn0 : (List.range n.toNatClampNeg)[k9]? = none := List.getElem?_eq_none (by rw [List.length_range]; omega)
        rw [hn0] at hx
        cases hx
    refine ⟨fun i j x y hi hj hxy => ?_, fun k9 x hx => ?_⟩
    · by_cases h1 : i < W1.length <;> by_cases h2 : j < W1.length
      · rw [List.getElem?_append_left h1] at hi
        rw [List.getElem?_append_left h2] at hj
        exact hD1.1 i j x y hi hj hxy
      · rw [List.getElem?_append_left h1] at hi
        rw [List.getElem?_append_right (by omega)] at hj
        have := hle _ _ hi
        have := hr _ _ hj
        omega
      · rw [List.getElem?_append_right (by omega)] at hi
        rw [List.getElem?_append_left h2] at hj
        have := hle _ _ hj
        have := hr _ _ hi
        omega
      · rw [List.getElem?_append_right (by omega)] at hi hj
        have := hr _ _ hi
        have := hr _ _ hj
        omega
    · by_cases h1 : k9 < W1.length
      · rw [List.getElem?_append_left h1] at hx
        exact hD1.2 k9 x hx
      · rw [List.getElem?_append_right (by omega)] at hx
        have := hr _ _ hx
        exact hA _ (by have := hS.1; omega)
  have hAr : ArrOfT s cA (.array ty) := fun N9 z9 => by
    obtain ⟨-, k9, hk9, cm9, hkk9⟩ := (hO 0 0 0).1
    exact ⟨(fun q hq => by cases hq), k9, hk9, cm9, hkk9⟩
  have hK2 : va_K D cl (tys ++ [(cA, .array ty)]) s := ⟨hK.1, fun k9 x hx => by
    by_cases hl : k9 < tys.length
    · rw [List.getElem?_append_left hl] at hx
      exact hK.2 k9 x hx
    · rw [List.getElem?_append_right (by omega)] at hx
      have h0 : k9 - tys.length < 1 := (List.getElem?_eq_some_iff.mp hx).1
      rw [show k9 - tys.length = 0 by omega] at hx
      cases hx
      exact ⟨hAr, fA⟩⟩
  obtain ⟨t, a1, b1⟩ := kk H.size (fun i => H.size + 1 + i) cA F.heap (fun i j _ _ h => by have h9 : H.size + 1 + i = H.size + 1 + j := h; omega) hnl hK2 (by rw [← vr_rows hnm]; exact vr_lay hP2) (by rw [← vr_rows hnm]; exact vr_layD hD2) ⟨by rw [f1]; have := hS.1; omega, fun x h1 h2 => (hold x (Nat.lt_of_lt_of_le h1 hS.1)).trans (hS.2.1 x h1 h2), hS.2.2⟩ F rfl X'
  refine ⟨t, step t ?_, b1⟩
  have e : T.heap.size = H.size := by rw [hT]
  rw [e]
  exact a1
end VGM
/-! ===== END ===== -/

/-! ===== BEGIN exceptions that leave a method, and their catching by the caller (launches without stack traces) ===== -/
section VXA
/-! The laws vx_back, vx_callV, vx_callS, vx_callSW, vx_throw0, vx_throwS follow proofs of the library, with one case more: JvmDerived/Free/Laws.lean (Back.of_free), Shelf42/LK1.lean (callV, callS), Shelf/KitTraced.lean (throwNew0V, throwNewS). -/
/-- where a method has thrown q: the class by its name, the cell, what was written, the world -/
def vx_T (XC : String → State → State → Prop) (st : State) (q : Addr) (t : State) (mc ms : Nat) (free : Addr → Prop) : Prop :=
  ∃ (E : String) (ce : Cell) (L : List Loc), XC E st t ∧ t.heap[q]? = some ce ∧ ce.vm = .none ∧ st.vm.findClass E = some ce.cls ∧ st.WarmedH t.vm ∧ st.sameButNew ({ t with vm := st.vm } : State) L mc ms ∧ ∀ z ∈ L, free z.base
def vx_Q (Qc : Array Value → State → Outcome → State → Prop) (XC : String → State → State → Prop) (mc ms : Nat) (free : Addr → Prop) : Array Value → State → Outcome → State → Prop := fun a st o t =>
  (Qc a st o t ∧ ∃ L, FrameEnd st o t L mc ms ∧ ∀ q ∈ L, free q.base) ∨ ∃ q, o = .threw q ∧ vx_T XC st q t mc ms free
/-- a callee that returns or throws -/
def vx_Met (l : Launch) (y : MethodName) (ws : List Cond) (rm : Room) (Pc : Array Value → State → Prop) (Qc : Array Value → State → Outcome → State → Prop) (XC : String → State → State → Prop) (mc ms : Nat) (free : Addr → Prop) : Prop :=
  MetFree l y (headSpec ws rm) Pc (fun _ _ _ _ _ => True) (vx_Q Qc XC mc ms free)
def vx_Post (XC : String → State → State → Prop) (mc ms : Nat) (free : Addr → Prop) : Pt → Array Value → Addr → Pt → Prop := fun A a q B =>
  ∃ (g : JFrame) (mk : MethodId) (t : State) (L : List Loc) (E : String) (ce : Cell), B.U.heap = t.heap ∧ B.U.vm = t.vm ∧ XC E (A.U.calling g mk a) t ∧ t.heap[q]? = some ce ∧ ce.vm = .none ∧ A.U.vm.findClass E = some ce.cls ∧ B.locs = A.locs ++ L ∧ (∀ z ∈ L, free z.base) ∧ B.cells = A.cells + mc ∧ B.slots = A.slots + ms
def vx_Back (l : Launch) (R : Room) (p : Program) (e : Env) (below : List Frame) (s : State) (sargs : Array Value) (y : MethodName) (len W9 : Nat)
    (Pre : Pt → Array Value → Prop) (Post : Pt → Array Value → Option Value → Pt → Prop) (PostX : Pt → Array Value → Addr → Pt → Prop) : Prop :=
  ∀ (m : MethodId) (meth : Method) (c : Code) (A : Pt) (g : JFrame) (ig : Instr) (mk : MethodId) (a : Array Value),
    Stand p l e R s m sargs below meth c A.U A.locs A.cells A.slots → g.method = m → g.locals.size = c.maxLocals → decode c.code g.pc = .ok (ig, len) →
    2 * g.monitorRoom + (g.stack.map fun v => v.category).sum ≤ W9 → A.U.methodNamed? y = some mk → Pre A a →
    (∃ (v : Option Value) (B : Pt), Stand p l e R s m sargs below meth c B.U B.locs B.cells B.slots ∧ Post A a v B ∧
      Steps p.tables e below (doInvoke e (A.U.setTop g) [] mk a).1 (B.U.setTop { g with pc := g.pc + len, stack := v.toList ++ g.stack })) ∨
    (∃ (q : Addr) (B : Pt), Stand p l e R s m sargs below meth c B.U B.locs B.cells B.slots ∧ PostX A a q B ∧
      Steps p.tables e below (doInvoke e (A.U.setTop g) [] mk a).1 ((B.U.setTop g).pushFrame (.throwing q)))
section Payer
variable {l : Launch} {R : Room} {p : Program} {e : Env} {below : List Frame} {s : State} {sargs : Array Value} {y : MethodName} {len W9 : Nat}
theorem vx_back {ws : List Cond} {rm : Room} {Pc : Array Value → State → Prop} {Qc : Array Value → State → Outcome → State → Prop} {XC : String → State → State → Prop} {mc ms : Nat} {free : Addr → Prop} {bytes : ByteArray} {maxL : Nat} {ret : Option FieldType}
    (hM : vx_Met l y ws rm Pc Qc XC mc ms free) (hblind : FrameBlind Pc) (hrc : rm.cells = mc) (hrs : rm.slots = ms)
    (hframes : rm.frames + 1 ≤ R.frames) (hlocals : W9 + (maxL + 11) + rm.locals ≤ R.locals)
    (hws : ∀ w ∈ ws, ∀ a' U, s.WarmedH U.vm → w.before a' U = true) (hcode : Cond.code y bytes maxL ret ∈ ws) (hinit : ∀ a' U, s.WarmedH U.vm → (Cond.initialized y.cls).before a' U = true) :
    vx_Back l R p e below s sargs y len W9 (PreOf R mc ms Pc) (PostOf Qc mc ms free) (vx_Post XC mc ms free) := by
  intro m meth c A g ig mk a X hg hsize hdg hW hn hp
  have h1 : (headSpec ws rm).pre.before a A.U = true := atoms_intro fun w hw => hws w hw _ _ X.warmed
  have h2 : (Cond.code y bytes maxL ret).before a A.U = true := hws _ hcode _ _ X.warmed
  have h3 : (Cond.initialized y.cls).before a A.U = true := hinit _ _ X.warmed
  have h4 : A.cells + (headSpec ws rm).room.cells ≤ R.cells := by rw [show (headSpec ws rm).room.cells = mc from hrc]; exact hp.1
  have h5 : A.slots + (headSpec ws rm).room.slots ≤ R.slots := by rw [show (headSpec ws rm).room.slots = ms from hrs]; exact hp.2.1
  have hPc : Pc a (A.U.calling g mk a) := hblind _ _ _ _ hp.2.2
  obtain ⟨U, Ls, c0, s0⟩ := A
  dsimp only [Pt.U, Pt.locs, Pt.cells, Pt.slots] at h1 h2 h3 h4 h5 X hn hPc ⊢
  obtain ⟨methY, cY, hmY, hcY, -, hlY, -, -, -, -⟩ := Cond.code_spec hn h2
  obtain ⟨kY, hkY, -⟩ := className_of_methodNamed hn
  have hinitY : kY.init = .initialized := Cond.initialized_spec (findClass_of_methodNamed hn) hkY h3
  have h : At U g.method c below := by rw [hg]; exact X.here
  have hlocals9 : W9 + (maxL + 11) + (headSpec ws rm).room.locals ≤ R.locals := hlocals
  have happ : (headSpec ws rm).appliesLoose y e.platform (U.calling g mk a) = true :=
    Spec.appliesLoose_calling (g := g) h hdg hn hkY hinitY
      (X.room_calling (g := g) (R' := (headSpec ws rm).room) hsize hmY hcY hframes (by rw [hlY]; omega) h4 h5) h1
  obtain ⟨mid, hmid⟩ := h.above
  have hfr : (U.setTop g).frames = (.java g :: mid) ++ below := by rw [State.frames_setTop' g h.top, hmid]; rfl
  obtain ⟨o, s₂, hsteps, -, hend, hq⟩ := Steps.callFree hM p X.admits X.cas X.clock (acts := []) hfr happ hPc trivial
  have hq' : vx_Q Qc XC mc ms free a (U.calling g mk a) o s₂ := hq
  rw [State.frames_setTop' g h.top] at hend
  obtain ⟨g₀, hg0⟩ := Option.isSome_iff_exists.mp h.top
  obtain ⟨r, hr⟩ := State.topJava?_eq_some.mp hg0
  have hr' : (({ U with heap := s₂.heap, slotsUsed := s₂.slotsUsed } : State).setVm s₂.vm).frames = .java g₀ :: r := hr
  rcases hq' with ⟨hqc, L, hfe, hL⟩ | ⟨q, rfl, E, ce, L, hx, hce, hcv, hcl, hW₂, hsm, hL⟩
  · obtain ⟨⟨v, rfl⟩, hW₂, e2, q2, q3, q4, q5, q6⟩ := id hfe
    have e3 : s₂ = ({ (U.calling g mk a).setFrames s₂.frames with heap := s₂.heap, slotsUsed := s₂.slotsUsed } : State).setVm s₂.vm := by
      have : s₂ = ({ s₂ with vm := (U.calling g mk a).vm } : State).setVm s₂.vm := rfl
      rw [e2] at this
      exact this
    obtain ⟨c₂, i₂, len₂, hc₂, hd₂, hf₂⟩ := hend
    have hW' : U.WarmedH s₂.vm := hW₂
    have hcc : c₂ = c := by
      have h1 : s₂.code? g.method = U.code? g.method := by
        rw [State.code?_eq, State.code?_eq, hW'.alike.method?]
      exact Option.some.inj (hc₂.symm.trans (h1.trans h.code))
    subst hcc
    have hlen : len₂ = len := by rw [hdg] at hd₂; cases hd₂; rfl
    subst hlen
    have hs₂ : s₂ = (({ U with heap := s₂.heap, slotsUsed := s₂.slotsUsed } : State).setVm s₂.vm).setTop { g with pc := g.pc + len₂, stack := v.toList ++ g.stack } := by
      refine e3.trans ?_
      rw [hf₂, State.calling_eq h.top, State.setFrames_setFrames, State.setTop_of_frames _ hr', hr]
      rfl
    have hsame : U.sameButNew ({ U with heap := s₂.heap, slotsUsed := s₂.slotsUsed } : State) L mc ms := by
      refine ⟨?_, q2, q3, q4, q5, q6⟩
      obtain ⟨t, ht, -⟩ := State.frames_cons hr
      show ({ U with heap := s₂.heap, slotsUsed := s₂.slotsUsed } : State) = { U.setFrames U.frames with heap := s₂.heap, slotsUsed := s₂.slotsUsed }
      rw [State.setFrames_self ht]
    subst hg
    refine Or.inl ⟨v, ⟨(({ U with heap := s₂.heap, slotsUsed := s₂.slotsUsed } : State).setVm s₂.vm), Ls ++ L, c0 + mc, s0 + ms⟩,
      ⟨X.admits, X.cas, X.clock, X.frames, X.room, X.hears, X.method, X.code, (X.here.setHeapUsed s₂.heap s₂.slotsUsed).setVm hW'.alike, X.tail, State.WarmedH.trans X.warmed hW', X.limits, X.bytes, X.same.trans (hsame.setVm s.vm)⟩,
      ⟨g, mk, s₂, L, rfl, rfl, hqc, rfl, hL, rfl, rfl⟩, ?_⟩
    show Steps p.tables e below _ ((({ U with heap := s₂.heap, slotsUsed := s₂.slotsUsed } : State).setVm s₂.vm).setTop { g with pc := g.pc + len₂, stack := v.toList ++ g.stack })
    rw [← hs₂]
    exact hsteps
  · obtain ⟨e2, q2, q3, q4, q5, q6⟩ := id hsm
    have e3 : s₂ = ({ (U.calling g mk a).setFrames s₂.frames with heap := s₂.heap, slotsUsed := s₂.slotsUsed } : State).setVm s₂.vm := by
      have : s₂ = ({ s₂ with vm := (U.calling g mk a).vm } : State).setVm s₂.vm := rfl
      rw [e2] at this
      exact this
    have hf₂ : s₂.frames = .throwing q :: .java g :: U.frames.tail := hend
    have hW' : U.WarmedH s₂.vm := hW₂
    have hs₂ : s₂ = ((({ U with heap := s₂.heap, slotsUsed := s₂.slotsUsed } : State).setVm s₂.vm).setTop g).pushFrame (.throwing q) := by
      refine e3.trans ?_
      rw [hf₂, State.calling_eq h.top, State.setFrames_setFrames, State.pushFrame, State.frames_setTop _ hr', State.setTop_of_frames _ hr', State.setFrames_setFrames, hr]
      rfl
    have hsame : U.sameButNew ({ U with heap := s₂.heap, slotsUsed := s₂.slotsUsed } : State) L mc ms := by
      refine ⟨?_, q2, q3, q4, q5, q6⟩
      obtain ⟨t, ht, -⟩ := State.frames_cons hr
      show ({ U with heap := s₂.heap, slotsUsed := s₂.slotsUsed } : State) = { U.setFrames U.frames with heap := s₂.heap, slotsUsed := s₂.slotsUsed }
      rw [State.setFrames_self ht]
    subst hg
    refine Or.inr ⟨q, ⟨(({ U with heap := s₂.heap, slotsUsed := s₂.slotsUsed } : State).setVm s₂.vm), Ls ++ L, c0 + mc, s0 + ms⟩,
      ⟨X.admits, X.cas, X.clock, X.frames, X.room, X.hears, X.method, X.code, (X.here.setHeapUsed s₂.heap s₂.slotsUsed).setVm hW'.alike, X.tail, State.WarmedH.trans X.warmed hW', X.limits, X.bytes, X.same.trans (hsame.setVm s.vm)⟩,
      ⟨g, mk, s₂, L, E, ce, rfl, rfl, hx, hce, hcv, hcl, rfl, hL, rfl, rfl⟩, ?_⟩
    show Steps p.tables e below _ (((({ U with heap := s₂.heap, slotsUsed := s₂.slotsUsed } : State).setVm s₂.vm).setTop g).pushFrame (.throwing q))
    rw [← hs₂]
    exact hsteps
end Payer
section Calls
variable {p : Program} {l : Launch} {e : Env} {R : Room} {s : State} {m : MethodId} {args : Array Value} {below : List Frame} {meth : Method} {c : Code} {T : State} {locs : List Loc} {cells slots : Nat}
theorem vx_callV (X : Stand p l e R s m args below meth c T locs cells slots) (hexec : p.tables.exec = Jvm.exec) {own C : String} {index : Nat} {y : MethodName} {bytes : ByteArray} {maxL : Nat} {ret : Option FieldType}
    (hown : s.vm.findClass own = some m.cls) (hlink : (Cond.methodLink own index y).before args s = true) (hinst : (Cond.instanceMethod y).before args s = true) (hsel : (Cond.selects C y y).before args s = true)
    (hcode : (Cond.code y bytes maxL ret).before args s = true) (hy : y.cls ≠ "java/lang/invoke/MethodHandle" ∧ y.cls ≠ "java/lang/invoke/VarHandle")
    {W9 : Nat} {Pre : Pt → Array Value → Prop} {Post : Pt → Array Value → Option Value → Pt → Prop} {PostX : Pt → Array Value → Addr → Pt → Prop} (hK : vx_Back l R p e below s args y 3 W9 Pre Post PostX)
    {b : Addr} {cellB : Cell} (hcell : T.heap[b]? = some cellB) (hobj : cellB.vm.isStatics = false) (hcls : s.vm.findClass C = some cellB.cls)
    {g : JFrame} (hg : g.method = m) (hsize : g.locals.size = c.maxLocals) {argsL rest : List Value} (hlen : ∀ sig, parseMethodDescriptor y.desc = some sig → argsL.length = sig.parameters.length)
    (hstack : g.stack = argsL.reverse ++ .ref b :: rest) (hW : 2 * g.monitorRoom + (rest.map fun v => v.category).sum ≤ W9) (hdg : decode c.code g.pc = .ok (.invokevirtual index, 3))
    (hpre : ∀ vm₁, s.WarmedH vm₁ → Pre ⟨T.setVm vm₁, locs, cells, slots⟩ (Value.ref b :: argsL).toArray) :
    (∃ (v : Option Value) (vm₁ : Vm) (B : Pt), s.WarmedH vm₁ ∧ Stand p l e R s m args below meth c B.U B.locs B.cells B.slots ∧ Post ⟨T.setVm vm₁, locs, cells, slots⟩ (Value.ref b :: argsL).toArray v B ∧
      ∀ target, Steps p.tables e below (B.U.setTop { g with pc := g.pc + 3, stack := v.toList ++ rest }) target → Steps p.tables e below (T.setTop g) target) ∨
    (∃ (q : Addr) (vm₁ : Vm) (B : Pt), s.WarmedH vm₁ ∧ Stand p l e R s m args below meth c B.U B.locs B.cells B.slots ∧ PostX ⟨T.setVm vm₁, locs, cells, slots⟩ (Value.ref b :: argsL).toArray q B ∧
      Steps p.tables e below (T.setTop g) ((B.U.setTop { g with stack := rest }).pushFrame (.throwing q))) := by
  obtain ⟨mk, methM, hnamed, hmethM, hstM, habM⟩ := Cond.instanceMethod_spec hinst
  obtain ⟨methM', cM, hmethM', -, -, -, -, -, -, hsigM⟩ := Cond.code_spec hnamed hcode
  cases hmethM.symm.trans hmethM'
  obtain ⟨c2, r2, m2, q1, q2, q3, q4, kP, hkP, hkPi⟩ := Cond.selects_spec hsel
  cases hcls.symm.trans q1
  cases (State.methodFound?_of_named hnamed hy).symm.trans q2
  cases hnamed.symm.trans q3
  have hselP : selectMethod e.platform s.vm cellB.cls mk = .method mk := by rw [Launch.admits_selectMethod X.admits]; exact q4
  obtain ⟨vm₁, X₁, hstep₁⟩ := X.invokevirtual hexec hown hlink hnamed hmethM hstM hkP hkPi hy (a := b) (cell := cellB) hcell
    (fun z h => by rw [h] at hobj; cases hobj) hselP hmethM habM hkP hkPi (g := g) hg (argsL := argsL) (rest := rest) (hlen _ hsigM) hstack hdg
  rcases hK m meth c ⟨T.setVm vm₁, locs, cells, slots⟩ { g with stack := rest } (.invokevirtual index) mk (Value.ref b :: argsL).toArray X₁ hg hsize hdg hW (X₁.named hnamed) (hpre vm₁ X₁.warmed) with ⟨v, B, X', hpost, hsteps⟩ | ⟨q, B, X', hpost, hsteps⟩
  · exact Or.inl ⟨v, vm₁, B, X₁.warmed, X', hpost, fun target h => hstep₁ _ fun acts => by rw [doInvoke_state]; exact hsteps.trans h⟩
  · exact Or.inr ⟨q, vm₁, B, X₁.warmed, X', hpost, hstep₁ _ fun acts => by rw [doInvoke_state]; exact hsteps⟩
theorem vx_callS (X : Stand p l e R s m args below meth c T locs cells slots) (hexec : p.tables.exec = Jvm.exec) {own : String} {index : Nat} {y : MethodName} {bytes : ByteArray} {maxL : Nat} {ret : Option FieldType}
    (hown : s.vm.findClass own = some m.cls) (hlink : (Cond.methodLink own index y).before args s = true) (hstat : (Cond.static y).before args s = true) (hinit : (Cond.initialized y.cls).before args s = true)
    (hcode : (Cond.code y bytes maxL ret).before args s = true) (hy : y.cls ≠ "java/lang/invoke/MethodHandle" ∧ y.cls ≠ "java/lang/invoke/VarHandle")
    {W9 : Nat} {Pre : Pt → Array Value → Prop} {Post : Pt → Array Value → Option Value → Pt → Prop} {PostX : Pt → Array Value → Addr → Pt → Prop} (hK : vx_Back l R p e below s args y 3 W9 Pre Post PostX)
    {g : JFrame} (hg : g.method = m) (hsize : g.locals.size = c.maxLocals) {argsL rest : List Value} (hlen : ∀ sig, parseMethodDescriptor y.desc = some sig → argsL.length = sig.parameters.length)
    (hstack : g.stack = argsL.reverse ++ rest) (hW : 2 * g.monitorRoom + (rest.map fun v => v.category).sum ≤ W9) (hdg : decode c.code g.pc = .ok (.invokestatic index, 3))
    (hpre : ∀ vm₁, s.WarmedH vm₁ → Pre ⟨T.setVm vm₁, locs, cells, slots⟩ argsL.toArray) :
    (∃ (v : Option Value) (vm₁ : Vm) (B : Pt), s.WarmedH vm₁ ∧ Stand p l e R s m args below meth c B.U B.locs B.cells B.slots ∧ Post ⟨T.setVm vm₁, locs, cells, slots⟩ argsL.toArray v B ∧
      ∀ target, Steps p.tables e below (B.U.setTop { g with pc := g.pc + 3, stack := v.toList ++ rest }) target → Steps p.tables e below (T.setTop g) target) ∨
    (∃ (q : Addr) (vm₁ : Vm) (B : Pt), s.WarmedH vm₁ ∧ Stand p l e R s m args below meth c B.U B.locs B.cells B.slots ∧ PostX ⟨T.setVm vm₁, locs, cells, slots⟩ argsL.toArray q B ∧
      Steps p.tables e below (T.setTop g) ((B.U.setTop { g with stack := rest }).pushFrame (.throwing q))) := by
  obtain ⟨mk, hnamed⟩ := Cond.code_named hcode
  obtain ⟨methM, cM, hmethM, -, -, -, -, -, -, hsigM⟩ := Cond.code_spec hnamed hcode
  have hstatic : methM.isStatic = true := Cond.static_spec hnamed hmethM hstat
  obtain ⟨kP, hkP, -⟩ := className_of_methodNamed hnamed
  have hinitP : kP.init = .initialized := Cond.initialized_spec (findClass_of_methodNamed hnamed) hkP hinit
  obtain ⟨vm₁, X₁, hstep₁⟩ := X.invokestatic hexec hown hlink hnamed hmethM hstatic hkP hinitP hy (g := g) hg (argsL := argsL) (rest := rest) (hlen _ hsigM) hstack hdg
  rcases hK m meth c ⟨T.setVm vm₁, locs, cells, slots⟩ { g with stack := rest } (.invokestatic index) mk argsL.toArray X₁ hg hsize hdg hW (X₁.named hnamed) (hpre vm₁ X₁.warmed) with ⟨v, B, X', hpost, hsteps⟩ | ⟨q, B, X', hpost, hsteps⟩
  · exact Or.inl ⟨v, vm₁, B, X₁.warmed, X', hpost, fun target h => hstep₁ _ fun acts => by rw [doInvoke_state]; exact hsteps.trans h⟩
  · exact Or.inr ⟨q, vm₁, B, X₁.warmed, X', hpost, hstep₁ _ fun acts => by rw [doInvoke_state]; exact hsteps⟩
end Calls
theorem vx_cls {s : State} {T : State} {vm₁ : Vm} {E : String} {k : ClassId} (hW : s.WarmedH vm₁) (h : (T.setVm vm₁).vm.findClass E = some k) : s.vm.findClass E = some k := by
  have h1 : vm₁.findClass E = some k := h
  rw [hW.alike.findClass] at h1
  exact h1
/-- the method's frame g, with q thrown over it -/
def vx_W (p : Program) (l : Launch) (e : Env) (R : Room) (s : State) (m : MethodId) (args : Array Value) (below : List Frame) (meth : Method) (c : Code) (H : Heap) (locs : List Loc) (cells slots : Nat) (Q : State → Prop) (g : JFrame) (q : Addr) : Prop :=
  ∀ T : State, T.heap = H → Stand p l e R s m args below meth c T locs cells slots → ∃ t, Steps p.tables e below ((T.setTop g).pushFrame (.throwing q)) t ∧ Q t
def vx_Run (p : Program) (l : Launch) (e : Env) (R : Room) (s : State) (m : MethodId) (args : Array Value) (below : List Frame) (meth : Method) (c : Code) (H : Heap) (locs : List Loc) (cells slots mc ms : Nat) (g : JFrame) (rest : List Value) (Qa : State → Outcome → State → Prop) (XC : String → State → State → Prop) (free : Addr → Prop) : Prop :=
  ∀ T : State, T.heap = H → Stand p l e R s m args below meth c T locs cells slots →
    (∃ (v : Option Value) (st₀ t T' : State) (L : List Loc), st₀.heap = H ∧ Stand p l e R s m args below meth c T' (locs ++ L) (cells + mc) (slots + ms) ∧ (∀ q ∈ L, free q.base) ∧ T'.heap = t.heap ∧ T'.vm = t.vm ∧ Qa st₀ (.returned v) t ∧
      Goes p e below T g T' { g with pc := g.pc + 3, stack := v.toList ++ rest }) ∨
    (∃ (q : Addr) (st₀ t T' : State) (L : List Loc) (E : String) (ce : Cell), st₀.heap = H ∧ Stand p l e R s m args below meth c T' (locs ++ L) (cells + mc) (slots + ms) ∧ (∀ z ∈ L, free z.base) ∧ T'.heap = t.heap ∧ T'.vm = t.vm ∧ XC E st₀ t ∧ t.heap[q]? = some ce ∧ ce.vm = .none ∧ s.vm.findClass E = some ce.cls ∧
      Steps p.tables e below (T.setTop g) ((T'.setTop { g with stack := rest }).pushFrame (.throwing q)))
def vx_X {S : Type} (px : S → Prop) (B : String → S → State → Prop) (A : Nat → Prop) : String → State → State → Prop := fun E st t => ∃ u : S, px u ∧ B E u t ∧ va_F A st t
section Runs
variable {p : Program} {l : Launch} {e : Env} {R : Room} {s : State} {m : MethodId} {args : Array Value} {below : List Frame} {meth : Method} {c : Code} {H : Heap} {locs : List Loc} {cells slots : Nat}
variable {y : MethodName} {bytes cc : ByteArray} {maxL nL mc ms n index : Nat} {ret : Option FieldType} {ws : List Cond} {rm : Room} {Pc : Array Value → State → Prop} {Qc : Array Value → State → Outcome → State → Prop} {XC : String → State → State → Prop} {free : Addr → Prop} {Ts : List Cond} {own C : String} {b : Addr} {As rest : List Value} {g : JFrame}
theorem vx_callBack (cb : CallB R s args own index y bytes maxL ret ws rm mc ms n) (hM : vx_Met l y ws rm Pc Qc XC mc ms free) (hbl : FrameBlind Pc) : vx_Back l R p e below s args y 3 8 (PreOf R mc ms Pc) (PostOf Qc mc ms free) (vx_Post XC mc ms free) := by
  obtain ⟨hrc, hrs, hfr, hlo, hws, hcw, -, hini, -⟩ := cb
  exact vx_back (bytes := bytes) (maxL := maxL) (ret := ret) hM hbl hrc hrs hfr hlo hws hcw (fun a' U hW => word_at hW (Or.inl (by first | rfl | simp [Cond.onTables, Cond.keeps, Cond.steady])) hini)
theorem vx_runV (S : CallFix p m c cc nL s args Ts own) (hM : vx_Met l y ws rm Pc Qc XC mc ms free) (cw : CallW R s args own C index y bytes maxL ret ws rm mc ms n) (hp : PreV s H C b Pc As)
    (hg : g.method = m) (hn : As.length = n) (hsize : g.locals.size = nL) (hstack : g.stack = As.reverse ++ .ref b :: rest) (hW : 2 * g.monitorRoom + (rest.map fun v => v.category).sum ≤ 8) (hdg : decode cc g.pc = .ok (.invokevirtual index, 3)) (hf : cells + mc ≤ R.cells ∧ slots + ms ≤ R.slots) :
    vx_Run p l e R s m args below meth c H locs cells slots mc ms g rest (Qc (Value.ref b :: As).toArray) XC free := by
  have hK : vx_Back l R p e below s args y 3 8 (PreOf R mc ms Pc) (PostOf Qc mc ms free) (vx_Post XC mc ms free) := vx_callBack cw.1 hM hp.1
  obtain ⟨⟨-, -, -, -, -, -, hcode, -, hy, hlen, hl⟩, hin, hse⟩ := cw
  obtain ⟨hx, hb, hml, ho, -⟩ := S
  obtain ⟨-, ⟨cellB, hcB, hoB, hclB⟩, hPc⟩ := hp
  intro T hT X
  rcases vx_callV X hx (C := C) (bytes := bytes) (maxL := maxL) (ret := ret) ho hl hin hse hcode hy hK (by rw [hT]; exact hcB) hoB hclB hg (hsize.trans hml.symm) (argsL := As) (rest := rest) (fun sig h => hn.trans (hlen sig h)) hstack hW (by rw [hb]; exact hdg)
    (fun vm₁ hW₁ => ⟨hf.1, hf.2, hPc (T.setVm vm₁) hT hW₁⟩) with ⟨v, vm₁, ⟨U', l2, c2, s2⟩, hW₁, X', ⟨g', mk, t, L, e1, e2, hq, h1, hL, h2, h3⟩, st⟩ | ⟨q, vm₁, ⟨U', l2, c2, s2⟩, hW₁, X', ⟨g', mk, t, L, E, ce, e1, e2, hq, hce, hcv, hcl, h1, hL, h2, h3⟩, st⟩
  · dsimp only [Pt.U, Pt.locs, Pt.cells, Pt.slots] at X' e1 e2 h1 h2 h3 st
    subst h1; subst h2; subst h3
    exact Or.inl ⟨v, (T.setVm vm₁).calling g' mk (Value.ref b :: As).toArray, t, U', L, hT, X', hL, e1, e2, hq, st⟩
  · dsimp only [Pt.U, Pt.locs, Pt.cells, Pt.slots] at X' e1 e2 h1 h2 h3 st hcl
    subst h1; subst h2; subst h3
    exact Or.inr ⟨q, (T.setVm vm₁).calling g' mk (Value.ref b :: As).toArray, t, U', L, E, ce, hT, X', hL, e1, e2, hq, hce, hcv, vx_cls hW₁ hcl, st⟩
theorem vx_runS (S : CallFix p m c cc nL s args Ts own) (hM : vx_Met l y ws rm Pc Qc XC mc ms free) (cw : CallB R s args own index y bytes maxL ret ws rm mc ms n ∧ (Cond.static y).before args s = true) (hp : PreS s H Pc As)
    (hg : g.method = m) (hn : As.length = n) (hsize : g.locals.size = nL) (hstack : g.stack = As.reverse ++ rest) (hW : 2 * g.monitorRoom + (rest.map fun v => v.category).sum ≤ 8) (hdg : decode cc g.pc = .ok (.invokestatic index, 3)) (hf : cells + mc ≤ R.cells ∧ slots + ms ≤ R.slots) :
    vx_Run p l e R s m args below meth c H locs cells slots mc ms g rest (Qc As.toArray) XC free := by
  have hK : vx_Back l R p e below s args y 3 8 (PreOf R mc ms Pc) (PostOf Qc mc ms free) (vx_Post XC mc ms free) := vx_callBack cw.1 hM hp.1
  obtain ⟨⟨-, -, -, -, -, -, hcode, hini, hy, hlen, hl⟩, hstt⟩ := cw
  obtain ⟨hx, hb, hml, ho, -⟩ := S
  intro T hT X
  rcases vx_callS X hx (bytes := bytes) (maxL := maxL) (ret := ret) ho hl hstt hini hcode hy hK hg (hsize.trans hml.symm) (argsL := As) (rest := rest) (fun sig h => hn.trans (hlen sig h)) hstack hW (by rw [hb]; exact hdg)
    (fun vm₁ hW₁ => ⟨hf.1, hf.2, hp.2 (T.setVm vm₁) hT hW₁⟩) with ⟨v, vm₁, ⟨U', l2, c2, s2⟩, hW₁, X', ⟨g', mk, t, L, e1, e2, hq, h1, hL, h2, h3⟩, st⟩ | ⟨q, vm₁, ⟨U', l2, c2, s2⟩, hW₁, X', ⟨g', mk, t, L, E, ce, e1, e2, hq, hce, hcv, hcl, h1, hL, h2, h3⟩, st⟩
  · dsimp only [Pt.U, Pt.locs, Pt.cells, Pt.slots] at X' e1 e2 h1 h2 h3 st
    subst h1; subst h2; subst h3
    exact Or.inl ⟨v, (T.setVm vm₁).calling g' mk As.toArray, t, U', L, hT, X', hL, e1, e2, hq, st⟩
  · dsimp only [Pt.U, Pt.locs, Pt.cells, Pt.slots] at X' e1 e2 h1 h2 h3 st hcl
    subst h1; subst h2; subst h3
    exact Or.inr ⟨q, (T.setVm vm₁).calling g' mk As.toArray, t, U', L, E, ce, hT, X', hL, e1, e2, hq, hce, hcv, vx_cls hW₁ hcl, st⟩
end Runs
section Rows
variable {p : Program} {l : Launch} {e : Env} {R : Room} {s : State} {m : MethodId} {args : Array Value} {below : List Frame} {meth : Method} {c : Code} {H : Heap} {locs : List Loc} {cells slots : Nat} {Q : State → Prop}
variable {mc ms : Nat} {free : Addr → Prop} {A0 A1 : Nat → Prop} {H0 : Heap} {a : Array Value} {pc : Nat} {ls : Array Slot} {st0 rest : List Value}
theorem vx_keep {st₀ t T' : State} {L : List Loc} (h0 : st₀.heap = H) (e1 : T'.heap = t.heap) (hS : va_S A0 H0 H locs) (hA : ∀ q, q < H.size → A1 q → A0 q) (hf : ∀ q, free q → A0 q) (hL : ∀ q ∈ L, free q.base) (hF : va_F A1 st₀ t) :
    H.size ≤ T'.heap.size ∧ (∀ q : Nat, q < H.size → ¬ A1 q → T'.heap[q]? = H[q]?) ∧ va_S A0 H0 T'.heap (locs ++ L) := by
  obtain ⟨hz, hk⟩ := hF
  rw [h0] at hz hk
  exact ⟨by rw [e1]; exact hz, fun q h1 h2 => by rw [e1]; exact hk q h1 h2,
    ⟨Nat.le_trans hS.1 (by rw [e1]; exact hz), fun q h1 h2 => by rw [e1, hk q (Nat.lt_of_lt_of_le h1 hS.1) (fun z => h2 (hA q (Nat.lt_of_lt_of_le h1 hS.1) z))]; exact hS.2.1 q h1 h2, fun q hq => by
      rcases List.mem_append.mp hq with h | h
      · exact hS.2.2 q h
      · exact hf _ (hL q h)⟩⟩
theorem vx_calli {S SX : Type} {post : Int32 → S → Prop} {px : SX → Prop} {B : S → State → Prop} {BX : String → SX → State → Prop} {AX : Nat → Prop} (hr : vx_Run p l e R s m args below meth c H locs cells slots mc ms (F0 m pc ls st0) rest (va_Qi post B A1 a) (vx_X px BX AX) free) (hS : va_S A0 H0 H locs) (hA : ∀ q, q < H.size → A1 q → A0 q) (hf : ∀ q, free q → A0 q) (hAX : ∀ q, q < H.size → AX q → A0 q)
    (kx : ∀ (E : String) (ce : Cell) (q9 : Addr) (u : SX) (t : State) (H1 : Heap) (locs1 : List Loc), t.heap = H1 → s.vm.Alike t.vm → px u → BX E u t → H.size ≤ H1.size → (∀ q : Nat, q < H.size → ¬ AX q → H1[q]? = H[q]?) → va_S A0 H0 H1 locs1 → H1[q9]? = some ce → ce.vm = .none → s.vm.findClass E = some ce.cls → vx_W p l e R s m args below meth c H1 locs1 (cells + mc) (slots + ms) Q (F0 m pc ls rest) q9)
    (kk : ∀ (r : Int32) (u : S) (t : State) (H1 : Heap) (locs1 : List Loc), t.heap = H1 → s.vm.Alike t.vm → post r u → B u t → H.size ≤ H1.size → (∀ q : Nat, q < H.size → ¬ A1 q → H1[q]? = H[q]?) → va_S A0 H0 H1 locs1 → W p l e R s m args below meth c H1 locs1 (cells + mc) (slots + ms) Q (F0 m (pc + 3) ls (.int r :: rest))) : W p l e R s m args below meth c H locs cells slots Q (F0 m pc ls st0) := by
  intro T hT X
  rcases hr T hT X with ⟨v, st₀, t, T', L, h0, X', hL, e1, e2, ⟨⟨r, u, hv, hp, hb⟩, hF⟩, st⟩ | ⟨q, st₀, t, T', L, E, ce, h0, X', hL, e1, e2, ⟨u, hp, hb, hF⟩, hce, hcv, hcl, st⟩
  · cases hv
    obtain ⟨k1, k2, k3⟩ := vx_keep h0 e1 hS hA hf hL hF
    obtain ⟨t2, a1, b1⟩ := kk r u t T'.heap (locs ++ L) e1.symm (by rw [← e2]; exact X'.warmed.alike) hp hb k1 k2 k3 T' rfl X'
    exact ⟨t2, st t2 a1, b1⟩
  · obtain ⟨k1, k2, k3⟩ := vx_keep h0 e1 hS hAX hf hL hF
    obtain ⟨t2, a1, b1⟩ := kx E ce q u t T'.heap (locs ++ L) e1.symm (by rw [← e2]; exact X'.warmed.alike) hp hb k1 k2 k3 (by rw [e1]; exact hce) hcv hcl T' rfl X'
    exact ⟨t2, st.trans a1, b1⟩
theorem vx_calll {S SX : Type} {post : Int64 → S → Prop} {px : SX → Prop} {B : S → State → Prop} {BX : String → SX → State → Prop} {AX : Nat → Prop} (hr : vx_Run p l e R s m args below meth c H locs cells slots mc ms (F0 m pc ls st0) rest (va_Ql post B A1 a) (vx_X px BX AX) free) (hS : va_S A0 H0 H locs) (hA : ∀ q, q < H.size → A1 q → A0 q) (hf : ∀ q, free q → A0 q) (hAX : ∀ q, q < H.size → AX q → A0 q)
    (kx : ∀ (E : String) (ce : Cell) (q9 : Addr) (u : SX) (t : State) (H1 : Heap) (locs1 : List Loc), t.heap = H1 → s.vm.Alike t.vm → px u → BX E u t → H.size ≤ H1.size → (∀ q : Nat, q < H.size → ¬ AX q → H1[q]? = H[q]?) → va_S A0 H0 H1 locs1 → H1[q9]? = some ce → ce.vm = .none → s.vm.findClass E = some ce.cls → vx_W p l e R s m args below meth c H1 locs1 (cells + mc) (slots + ms) Q (F0 m pc ls rest) q9)
    (kk : ∀ (r : Int64) (u : S) (t : State) (H1 : Heap) (locs1 : List Loc), t.heap = H1 → s.vm.Alike t.vm → post r u → B u t → H.size ≤ H1.size → (∀ q : Nat, q < H.size → ¬ A1 q → H1[q]? = H[q]?) → va_S A0 H0 H1 locs1 → W p l e R s m args below meth c H1 locs1 (cells + mc) (slots + ms) Q (F0 m (pc + 3) ls (.long r :: rest))) : W p l e R s m args below meth c H locs cells slots Q (F0 m pc ls st0) := by
  intro T hT X
  rcases hr T hT X with ⟨v, st₀, t, T', L, h0, X', hL, e1, e2, ⟨⟨r, u, hv, hp, hb⟩, hF⟩, st⟩ | ⟨q, st₀, t, T', L, E, ce, h0, X', hL, e1, e2, ⟨u, hp, hb, hF⟩, hce, hcv, hcl, st⟩
  · cases hv
    obtain ⟨k1, k2, k3⟩ := vx_keep h0 e1 hS hA hf hL hF
    obtain ⟨t2, a1, b1⟩ := kk r u t T'.heap (locs ++ L) e1.symm (by rw [← e2]; exact X'.warmed.alike) hp hb k1 k2 k3 T' rfl X'
    exact ⟨t2, st t2 a1, b1⟩
  · obtain ⟨k1, k2, k3⟩ := vx_keep h0 e1 hS hAX hf hL hF
    obtain ⟨t2, a1, b1⟩ := kx E ce q u t T'.heap (locs ++ L) e1.symm (by rw [← e2]; exact X'.warmed.alike) hp hb k1 k2 k3 (by rw [e1]; exact hce) hcv hcl T' rfl X'
    exact ⟨t2, st.trans a1, b1⟩
theorem vx_callf {S SX : Type} {post : UInt32 → S → Prop} {px : SX → Prop} {B : S → State → Prop} {BX : String → SX → State → Prop} {AX : Nat → Prop} (hr : vx_Run p l e R s m args below meth c H locs cells slots mc ms (F0 m pc ls st0) rest (va_Qf post B A1 a) (vx_X px BX AX) free) (hS : va_S A0 H0 H locs) (hA : ∀ q, q < H.size → A1 q → A0 q) (hf : ∀ q, free q → A0 q) (hAX : ∀ q, q < H.size → AX q → A0 q)
    (kx : ∀ (E : String) (ce : Cell) (q9 : Addr) (u : SX) (t : State) (H1 : Heap) (locs1 : List Loc), t.heap = H1 → s.vm.Alike t.vm → px u → BX E u t → H.size ≤ H1.size → (∀ q : Nat, q < H.size → ¬ AX q → H1[q]? = H[q]?) → va_S A0 H0 H1 locs1 → H1[q9]? = some ce → ce.vm = .none → s.vm.findClass E = some ce.cls → vx_W p l e R s m args below meth c H1 locs1 (cells + mc) (slots + ms) Q (F0 m pc ls rest) q9)
    (kk : ∀ (r : UInt32) (u : S) (t : State) (H1 : Heap) (locs1 : List Loc), t.heap = H1 → s.vm.Alike t.vm → post r u → B u t → H.size ≤ H1.size → (∀ q : Nat, q < H.size → ¬ A1 q → H1[q]? = H[q]?) → va_S A0 H0 H1 locs1 → W p l e R s m args below meth c H1 locs1 (cells + mc) (slots + ms) Q (F0 m (pc + 3) ls (.float r :: rest))) : W p l e R s m args below meth c H locs cells slots Q (F0 m pc ls st0) := by
  intro T hT X
  rcases hr T hT X with ⟨v, st₀, t, T', L, h0, X', hL, e1, e2, ⟨⟨r, u, hv, hp, hb⟩, hF⟩, st⟩ | ⟨q, st₀, t, T', L, E, ce, h0, X', hL, e1, e2, ⟨u, hp, hb, hF⟩, hce, hcv, hcl, st⟩
  · cases hv
    obtain ⟨k1, k2, k3⟩ := vx_keep h0 e1 hS hA hf hL hF
    obtain ⟨t2, a1, b1⟩ := kk r u t T'.heap (locs ++ L) e1.symm (by rw [← e2]; exact X'.warmed.alike) hp hb k1 k2 k3 T' rfl X'
    exact ⟨t2, st t2 a1, b1⟩
  · obtain ⟨k1, k2, k3⟩ := vx_keep h0 e1 hS hAX hf hL hF
    obtain ⟨t2, a1, b1⟩ := kx E ce q u t T'.heap (locs ++ L) e1.symm (by rw [← e2]; exact X'.warmed.alike) hp hb k1 k2 k3 (by rw [e1]; exact hce) hcv hcl T' rfl X'
    exact ⟨t2, st.trans a1, b1⟩
theorem vx_calld {S SX : Type} {post : UInt64 → S → Prop} {px : SX → Prop} {B : S → State → Prop} {BX : String → SX → State → Prop} {AX : Nat → Prop} (hr : vx_Run p l e R s m args below meth c H locs cells slots mc ms (F0 m pc ls st0) rest (va_Qd post B A1 a) (vx_X px BX AX) free) (hS : va_S A0 H0 H locs) (hA : ∀ q, q < H.size → A1 q → A0 q) (hf : ∀ q, free q → A0 q) (hAX : ∀ q, q < H.size → AX q → A0 q)
    (kx : ∀ (E : String) (ce : Cell) (q9 : Addr) (u : SX) (t : State) (H1 : Heap) (locs1 : List Loc), t.heap = H1 → s.vm.Alike t.vm → px u → BX E u t → H.size ≤ H1.size → (∀ q : Nat, q < H.size → ¬ AX q → H1[q]? = H[q]?) → va_S A0 H0 H1 locs1 → H1[q9]? = some ce → ce.vm = .none → s.vm.findClass E = some ce.cls → vx_W p l e R s m args below meth c H1 locs1 (cells + mc) (slots + ms) Q (F0 m pc ls rest) q9)
    (kk : ∀ (r : UInt64) (u : S) (t : State) (H1 : Heap) (locs1 : List Loc), t.heap = H1 → s.vm.Alike t.vm → post r u → B u t → H.size ≤ H1.size → (∀ q : Nat, q < H.size → ¬ A1 q → H1[q]? = H[q]?) → va_S A0 H0 H1 locs1 → W p l e R s m args below meth c H1 locs1 (cells + mc) (slots + ms) Q (F0 m (pc + 3) ls (.double r :: rest))) : W p l e R s m args below meth c H locs cells slots Q (F0 m pc ls st0) := by
  intro T hT X
  rcases hr T hT X with ⟨v, st₀, t, T', L, h0, X', hL, e1, e2, ⟨⟨r, u, hv, hp, hb⟩, hF⟩, st⟩ | ⟨q, st₀, t, T', L, E, ce, h0, X', hL, e1, e2, ⟨u, hp, hb, hF⟩, hce, hcv, hcl, st⟩
  · cases hv
    obtain ⟨k1, k2, k3⟩ := vx_keep h0 e1 hS hA hf hL hF
    obtain ⟨t2, a1, b1⟩ := kk r u t T'.heap (locs ++ L) e1.symm (by rw [← e2]; exact X'.warmed.alike) hp hb k1 k2 k3 T' rfl X'
    exact ⟨t2, st t2 a1, b1⟩
  · obtain ⟨k1, k2, k3⟩ := vx_keep h0 e1 hS hAX hf hL hF
    obtain ⟨t2, a1, b1⟩ := kx E ce q u t T'.heap (locs ++ L) e1.symm (by rw [← e2]; exact X'.warmed.alike) hp hb k1 k2 k3 (by rw [e1]; exact hce) hcv hcl T' rfl X'
    exact ⟨t2, st.trans a1, b1⟩
theorem vx_callv {S SX : Type} {post : S → Prop} {px : SX → Prop} {B : S → State → Prop} {BX : String → SX → State → Prop} {AX : Nat → Prop} (hr : vx_Run p l e R s m args below meth c H locs cells slots mc ms (F0 m pc ls st0) rest (va_Qv post B A1 a) (vx_X px BX AX) free) (hS : va_S A0 H0 H locs) (hA : ∀ q, q < H.size → A1 q → A0 q) (hf : ∀ q, free q → A0 q) (hAX : ∀ q, q < H.size → AX q → A0 q)
    (kx : ∀ (E : String) (ce : Cell) (q9 : Addr) (u : SX) (t : State) (H1 : Heap) (locs1 : List Loc), t.heap = H1 → s.vm.Alike t.vm → px u → BX E u t → H.size ≤ H1.size → (∀ q : Nat, q < H.size → ¬ AX q → H1[q]? = H[q]?) → va_S A0 H0 H1 locs1 → H1[q9]? = some ce → ce.vm = .none → s.vm.findClass E = some ce.cls → vx_W p l e R s m args below meth c H1 locs1 (cells + mc) (slots + ms) Q (F0 m pc ls rest) q9)
    (kk : ∀ (u : S) (t : State) (H1 : Heap) (locs1 : List Loc), t.heap = H1 → s.vm.Alike t.vm → post u → B u t → H.size ≤ H1.size → (∀ q : Nat, q < H.size → ¬ A1 q → H1[q]? = H[q]?) → va_S A0 H0 H1 locs1 → W p l e R s m args below meth c H1 locs1 (cells + mc) (slots + ms) Q (F0 m (pc + 3) ls (rest))) : W p l e R s m args below meth c H locs cells slots Q (F0 m pc ls st0) := by
  intro T hT X
  rcases hr T hT X with ⟨v, st₀, t, T', L, h0, X', hL, e1, e2, ⟨⟨u, hv, hp, hb⟩, hF⟩, st⟩ | ⟨q, st₀, t, T', L, E, ce, h0, X', hL, e1, e2, ⟨u, hp, hb, hF⟩, hce, hcv, hcl, st⟩
  · cases hv
    obtain ⟨k1, k2, k3⟩ := vx_keep h0 e1 hS hA hf hL hF
    obtain ⟨t2, a1, b1⟩ := kk u t T'.heap (locs ++ L) e1.symm (by rw [← e2]; exact X'.warmed.alike) hp hb k1 k2 k3 T' rfl X'
    exact ⟨t2, st t2 a1, b1⟩
  · obtain ⟨k1, k2, k3⟩ := vx_keep h0 e1 hS hAX hf hL hF
    obtain ⟨t2, a1, b1⟩ := kx E ce q u t T'.heap (locs ++ L) e1.symm (by rw [← e2]; exact X'.warmed.alike) hp hb k1 k2 k3 (by rw [e1]; exact hce) hcv hcl T' rfl X'
    exact ⟨t2, st.trans a1, b1⟩
/-- caught by the row x of this method's table; the rows ahead don't take it -/
theorem vx_catch {own name : String} {E : String} {ce : Cell} {q : Addr} (hown : s.vm.findClass own = some m.cls) (pre : List ExceptionTableEntry) (x : ExceptionTableEntry) (suf : List ExceptionTableEntry) (hsplit : c.exceptionTable.toList = pre ++ x :: suf)
    (hpass : ∀ z ∈ pre, covers z pc = false ∨ (z.catchType ≠ 0 ∧ ∃ nm : String, (Cond.classLink own z.catchType nm).before args s = true ∧ va_Nc E nm s)) (hx : covers x pc = true) (h0 : x.catchType ≠ 0)
    (hlink : (Cond.classLink own x.catchType name).before args s = true) (hcast : (Cond.castable E name).before args s = true) (hcell : H[q]? = some ce) (hv : ce.vm = .none) (hcl : s.vm.findClass E = some ce.cls)
    (kk : W p l e R s m args below meth c H locs cells slots Q (F0 m x.handlerPc ls [.ref q])) : vx_W p l e R s m args below meth c H locs cells slots Q (F0 m pc ls rest) q := by
  intro T hT X
  have hpl : e.platform.magicAccessors = ({} : Platform).magicAccessors := by rw [X.admits.platform]
  obtain ⟨c3, c4, hc3, hc4, hasg⟩ := Cond.castable_spec hcast
  cases Option.some.inj (hc3.symm.trans hcl)
  obtain ⟨c5, hc5, hcl5⟩ := Cond.classLink_spec hown hlink e.platform hpl
  cases Option.some.inj (hc4.symm.trans hc5)
  obtain ⟨vm', X', st⟩ := X.thenCaughtThrough q (g := F0 m pc ls rest) rfl (Steps.refl _) (by rw [hT]; exact hcell) (by rw [hv]; rfl) (by obtain ⟨k9, h9, -⟩ := Vm.findClass_spec hcl; exact ⟨k9, h9⟩) pre x suf hsplit
    (fun z hz => by
      rcases hpass z hz with h | ⟨hz0, nm, hl1, hn1⟩
      · exact Or.inl h
      · obtain ⟨c6, hc6, hcl6⟩ := Cond.classLink_spec hown hl1 e.platform hpl
        obtain ⟨a8, b8, h1, h2, h3⟩ := hn1
        cases Option.some.inj (h1.symm.trans hcl)
        cases Option.some.inj (h2.symm.trans hc6)
        exact Or.inr ⟨hz0, _, hcl6, h3⟩) hx (Or.inr ⟨h0, c4, hcl5, hasg⟩)
  obtain ⟨t, a1, b1⟩ := kk (T.setVm vm') hT X'
  exact ⟨t, st.trans a1, b1⟩
end Rows
section Ends
variable {p : Program} {l : Launch} {e : Env} {R : Room} {s : State} {m : MethodId} {args : Array Value} {below : List Frame} {meth : Method} {c : Code} {H : Heap} {locs : List Loc} {cells slots : Nat} {Q : State → Prop}
variable {mc ms : Nat} {free : Addr → Prop} {A0 A1 : Nat → Prop} {H0 : Heap} {a : Array Value} {ls : Array Slot} {st0 rest : List Value}
variable {Qc : Array Value → State → Outcome → State → Prop} {XC : String → State → State → Prop}
/-- what a body that may throw owes at its end -/
def vx_MQ (below : List Frame) (Qc : Array Value → State → Outcome → State → Prop) (XC : String → State → State → Prop) (a : Array Value) (s : State) (mc ms : Nat) (free : Addr → Prop) : State → Prop := fun t =>
  ∃ o, t.status = .running ∧ Ended t below o ∧ vx_Q Qc XC mc ms free a s o t
theorem vx_ret {g : JFrame} {mc ms : Nat} (k : W p l e R s m args below meth c H locs cells slots (MQ below Qc args s mc ms free) g) : W p l e R s m args below meth c H locs cells slots (vx_MQ below Qc XC args s mc ms free) g := by
  intro T hT X
  obtain ⟨t, a1, o, b1, b2, b3, b4⟩ := k T hT X
  exact ⟨t, a1, o, b1, b2, Or.inl ⟨b3, b4⟩⟩
/-- not caught here: it goes on to the caller -/
theorem vx_widen {g : JFrame} {q : Addr} {k n : Nat} (h1 : cells ≤ k) (h2 : slots ≤ n) (kk : vx_W p l e R s m args below meth c H locs k n Q g q) : vx_W p l e R s m args below meth c H locs cells slots Q g q := fun T hT X => kk T hT (stand_widen X h1 h2)
theorem vx_out {pc : Nat} {E : String} {ce : Cell} {q : Addr} {mc ms : Nat} (hout : ∀ x ∈ c.exceptionTable.toList, covers x pc = false) (hlocks : meth.locks = false) (hcell : H[q]? = some ce) (hv : ce.vm = .none) (hcl : s.vm.findClass E = some ce.cls)
    (hx : ∀ t : State, t.heap = H → s.vm.Alike t.vm → XC E s t) (hf : ∀ z ∈ locs, free z.base) (hc : cells ≤ mc) (hs : slots ≤ ms) :
    vx_W p l e R s m args below meth c H locs cells slots (vx_MQ below Qc XC args s mc ms free) (F0 m pc ls rest) q := by
  intro T hT X
  obtain ⟨st1, hrun, hend, hW, hsm⟩ := X.leaveThrown q (g := F0 m pc ls rest) rfl rfl rfl hout hlocks
  have hcell9 : (T.setFrames (.throwing q :: below)).heap[q]? = some ce := by
    show T.heap[q]? = some ce
    rw [hT]; exact hcell
  exact ⟨_, st1, .threw q, hrun, hend, Or.inr ⟨q, rfl, E, ce, locs, hx _ hT hW.alike, hcell9, hv, hcl, hW, hsm.mono hc hs, hf⟩⟩
theorem vx_frame {U : State} {k n : Nat} (h : s.sameButNew ({ U with vm := s.vm } : State) locs k n) : s.heap.size ≤ U.heap.size ∧ ∀ q : Nat, q < s.heap.size → (∀ z ∈ locs, z.base ≠ q) → U.heap[q]? = s.heap[q]? := by
  obtain ⟨-, h2, -, -, -, h6⟩ := h
  refine ⟨h2, fun q hq hz => ?_⟩
  obtain ⟨c9, e1, e2, e3, e4⟩ := h6 q _ (Array.getElem?_eq_getElem hq)
  have hs : c9.slots = (s.heap[q]).slots := Array.ext_getElem? fun i => e4 i fun hm => hz _ hm rfl
  have h9 : c9 = s.heap[q] := by
    rw [hs] at e2
    exact e2
  have e5 : U.heap[q]? = some c9 := e1
  rw [e5, h9, Array.getElem?_eq_getElem hq]
/-- the words of a throw but the four that speak of the heap -/
def vx_no (w : Cond) : Bool := decide (w ≠ .isRef (.static Bundle.tN "UNASSIGNED_STACK" Bundle.steD)) && decide (w ≠ .isRef (.static Bundle.tN "SUPPRESSED_SENTINEL" Bundle.listD)) && decide (w ≠ .laysStatic Bundle.tN "UNASSIGNED_STACK" Bundle.steD) && decide (w ≠ .laysStatic Bundle.tN "SUPPRESSED_SENTINEL" Bundle.listD)
def vx_at0 (own : String) (ic : Nat) (X : String) (names : List String) : List Cond := (Bundle.ownAtoms0 own ic X names).filter vx_no
def vx_atS (own : String) (ic : Nat) (X : String) (names : List String) : List Cond := (Bundle.ownAtoms own ic X names).filter vx_no
/-- a word that the tables alone decide, or a good one -/
def vx_ot (w : Cond) : Bool := w.onTables || goodWord w
theorem vx_ot_at {args a' : Array Value} {s U : State} {w : Cond} (hW : s.WarmedH U.vm) (hvm : s.vm = U.vm) (hg : vx_ot w = true) (h : w.before args s = true) : w.before a' U = true := by
  simp only [vx_ot, Bool.or_eq_true] at hg
  rcases hg with hg | hg
  · exact va_tabs hg hvm h
  · exact word_at hW (good_of_word hg) h
/-- a list's words: the good ones out of the method's own list, the others by premises of their own -/
theorem vx_hat {args : Array Value} {s : State} {L B : List Cond} (h1 : ∀ w ∈ L.filter goodWord, w.before args s = true) (h2 : ∀ w ∈ L.filter (fun w => !goodWord w), w ∈ B) (h3 : ∀ w ∈ B, w.before args s = true) : ∀ w ∈ L, w.before args s = true := by
  intro w hw
  by_cases g : goodWord w = true
  · exact h1 w (List.mem_filter.mpr ⟨hw, g⟩)
  · refine h3 w (h2 w (List.mem_filter.mpr ⟨hw, ?_⟩))
    show (!goodWord w) = true
    cases hgw : goodWord w
    · rfl
    · exact absurd hgw g
theorem vx_c {args : Array Value} {s : State} {w : Cond} {B : List Cond} (h : w.before args s = true) (t : ∀ w ∈ B, w.before args s = true) : ∀ w' ∈ w :: B, w'.before args s = true := fun w' h' => (List.mem_cons.mp h').elim (fun e => by rw [e]; exact h) (t w')
theorem vx_n {args : Array Value} {s : State} : ∀ w ∈ ([] : List Cond), w.before args s = true := fun _ h => nomatch h
theorem vx_own {args : Array Value} {s : State} {L : List Cond} (h1 : ∀ w ∈ L.filter vx_no, w.before args s = true)
    (hU : (Cond.isRef (.static Bundle.tN "UNASSIGNED_STACK" Bundle.steD)).before args s = true) (hN : (Cond.isRef (.static Bundle.tN "SUPPRESSED_SENTINEL" Bundle.listD)).before args s = true)
    (lU : (Cond.laysStatic Bundle.tN "UNASSIGNED_STACK" Bundle.steD).before args s = true) (lN : (Cond.laysStatic Bundle.tN "SUPPRESSED_SENTINEL" Bundle.listD).before args s = true) : ∀ w ∈ L, w.before args s = true := by
  intro w hw
  by_cases e1 : w = .isRef (.static Bundle.tN "UNASSIGNED_STACK" Bundle.steD)
  · rw [e1]; exact hU
  · by_cases e2 : w = .isRef (.static Bundle.tN "SUPPRESSED_SENTINEL" Bundle.listD)
    · rw [e2]; exact hN
    · by_cases e3 : w = .laysStatic Bundle.tN "UNASSIGNED_STACK" Bundle.steD
      · rw [e3]; exact lU
      · by_cases e4 : w = .laysStatic Bundle.tN "SUPPRESSED_SENTINEL" Bundle.listD
        · rw [e4]; exact lN
        · exact h1 w (List.mem_filter.mpr ⟨hw, by unfold vx_no; rw [decide_eq_true e1, decide_eq_true e2, decide_eq_true e3, decide_eq_true e4]; rfl⟩)
/-- where a static field lies, its class's statics cell in H -/
def vx_L (C n d : String) (A : Nat → Prop) (U : State) (H : Heap) : Prop := ∃ (c : ClassId) (k : Class) (i : Nat) (f : Field) (a : Nat) (cell : Cell), U.vm.findClass C = some c ∧ U.fieldFound? C n d = some (c, k, i, f) ∧ f.isStatic = true ∧ k.statics = some a ∧ H[a]? = some cell ∧ cell.vm.isStatics = true ∧ cell.cls = c ∧ f.slot < cell.slots.size ∧ k.staticTypes[f.slot]? = some f.type ∧ ¬ A a
theorem vx_L.moved {C n d : String} {A : Nat → Prop} {u U : State} {H : Heap} (hvm : u.vm.Alike U.vm) (h : vx_L C n d A u H) : vx_L C n d A U H := by
  obtain ⟨c, k, i, f, a, cell, h1, h2, h3, h4, h5, h6, h7, h8, h9, h10⟩ := h
  obtain ⟨k', hi', he⟩ := State.fieldFound?_setVm hvm h2
  exact ⟨c, k', i, f, a, cell, by rw [hvm.findClass]; exact h1, hi', h3, by rw [he]; exact h4, h5, h6, h7, h8, by rw [he]; exact h9, h10⟩
theorem vx_L.kept {C n d : String} {A : Nat → Prop} {U : State} {H H1 : Heap} (h : vx_L C n d A U H) (hq : ∀ a : Nat, a < H.size → ¬ A a → H1[a]? = H[a]?) : vx_L C n d A U H1 := by
  obtain ⟨c, k, i, f, a, cell, h1, h2, h3, h4, h5, h6, h7, h8, h9, h10⟩ := h
  exact ⟨c, k, i, f, a, cell, h1, h2, h3, h4, by rw [hq a (Array.getElem?_eq_some_iff.mp h5).1 h10]; exact h5, h6, h7, h8, h9, h10⟩
theorem vx_L.narrow {C n d : String} {A B : Nat → Prop} {U : State} {H : Heap} (h : vx_L C n d A U H) (hAB : ∀ q, B q → A q) : vx_L C n d B U H := by
  obtain ⟨c, k, i, f, a, cell, h1, h2, h3, h4, h5, h6, h7, h8, h9, h10⟩ := h
  exact ⟨c, k, i, f, a, cell, h1, h2, h3, h4, h5, h6, h7, h8, h9, fun z => h10 (hAB _ z)⟩
theorem vx_L.word {C n d : String} {A : Nat → Prop} {s : State} {args : Array Value} (h : vx_L C n d A s s.heap) : (Cond.laysStatic C n d).before args s = true := by
  obtain ⟨c, k, i, f, a, cell, h1, h2, h3, h4, h5, h6, h7, h8, h9, -⟩ := h
  show (Cond.laysStatic C n d).holds args s none s [] = true
  exact Cond.laysStatic_of h1 h2 h3 h4 h5 h6 h7 h8 h9
/-- .. and what it holds: null or some reference -/
def vx_Zq (C n d : String) (A : Nat → Prop) (U : State) (H : Heap) : Prop := va_Zq C n d A U H ∧ vx_L C n d A U H
theorem vx_Zq.moved {C n d : String} {A : Nat → Prop} {u U : State} {H : Heap} (hvm : u.vm.Alike U.vm) (h : vx_Zq C n d A u H) : vx_Zq C n d A U H := ⟨va_Zq.moved hvm h.1, vx_L.moved hvm h.2⟩
theorem vx_Zq.kept {C n d : String} {A : Nat → Prop} {U : State} {H H1 : Heap} (h : vx_Zq C n d A U H) (hq : ∀ a : Nat, a < H.size → ¬ A a → H1[a]? = H[a]?) : vx_Zq C n d A U H1 := ⟨va_Zq.kept h.1 hq, vx_L.kept h.2 hq⟩
theorem vx_Zq.narrow {C n d : String} {A B : Nat → Prop} {U : State} {H : Heap} (h : vx_Zq C n d A U H) (hAB : ∀ q, B q → A q) : vx_Zq C n d B U H := ⟨va_Zq.narrow h.1 hAB, vx_L.narrow h.2 hAB⟩
theorem vx_Zqof {args : Array Value} {s : State} {C n d : String} {A : Nat → Prop} (hl : (Cond.laysStatic C n d).before args s = true) (hini : (Cond.initialized C).before args s = true) (h : (Cond.isRef (.static C n d)).before args s = true) (hA : ∀ a : Nat, a < s.heap.size → ¬ A a) : vx_Zq C n d A s s.heap := by
  refine ⟨va_Zqof hl hini h hA, ?_⟩
  obtain ⟨c, k, i, f, a, cell, h1, h2, h3, h4, h5, h6, h7, h8, h9⟩ := Cond.laysStatic_spec hl
  exact ⟨c, k, i, f, a, cell, h1, h2, h3, h4, h5, h6, h7, h8, h9, hA a (Array.getElem?_eq_some_iff.mp h5).1⟩
theorem vx_isRef {C n d : String} {v : Value} {A : Nat → Prop} {s : State} {args : Array Value} (h : va_Z C n d v A s s.heap) (hv : v.isRef = true) : (Cond.isRef (.static C n d)).before args s = true := by
  obtain ⟨cf, kf, fi, f, a, cell, h1, h2, h3, h4, h5, h6, h7, -⟩ := h
  have he : (Term.static C n d).eval args s none [] s = some v := by
    simp [Term.eval, State.fieldNamed?, h1, h2, h4, h5, h6, h7]
  simp only [Cond.before, Cond.holds, Cond.value, he]
  cases v <;> simp_all [Value.isRef]
theorem vx_isRefq {C n d : String} {A : Nat → Prop} {s : State} {args : Array Value} (h : va_Zq C n d A s s.heap) : (Cond.isRef (.static C n d)).before args s = true := by
  rcases h with h | ⟨t, h⟩
  · exact vx_isRef h rfl
  · exact vx_isRef h rfl
/-- the same frame, seen from here: as if the method were called anew in this heap -/
theorem vx_rebase {T : State} (X : Stand p l e R s m args below meth c T locs cells slots) {R' : Room} (hf : R'.frames ≤ R.frames) (hl : R'.locals ≤ R.locals) (hc : cells + R'.cells ≤ R.cells) (hs : slots + R'.slots ≤ R.slots) :
    Stand p l e R' ((T.setVm s.vm).setFrames (.invoking m args :: below)) m args below meth c T [] 0 0 := by
  have htop : (T.setVm s.vm).topJava?.isSome := X.here.top
  have hF : ((T.setVm s.vm).setFrames (.invoking m args :: below)).frames = .invoking m args :: below := State.frames_setFrames _ (State.cur_lt_of_top htop)
  obtain ⟨g₀, hg0⟩ := Option.isSome_iff_exists.mp htop
  obtain ⟨r, hr⟩ := State.topJava?_eq_some.mp hg0
  have hl9 : e.platform.stackLimits (T.setVm s.vm).me = e.platform.stackLimits s.me := X.limits
  have hb9 : (T.setVm s.vm).me.stackBytes = s.me.stackBytes := X.bytes
  refine ⟨X.admits, X.cas, X.clock, hF, ?_, X.hears, X.method, X.code, X.here, X.tail, X.warmed, ?_, ?_, ?_⟩
  · have h := X.room
    have hU : ((T.setVm s.vm).setFrames (.invoking m args :: below)).localsInUse = s.localsInUse := by
      rw [State.localsInUse_invoking hF (meth := meth) (c := c) X.method X.code, State.localsInUse_invoking X.frames X.method X.code]
    simp only [State.hasRoom, Bool.and_eq_true, decide_eq_true_eq] at h ⊢
    obtain ⟨⟨⟨⟨h1, h2, h3, h4, h5, h6⟩, h7⟩, h8⟩, h9⟩ := h
    rw [X.frames, List.length_cons] at h2 h3
    have q1 := X.heapSize
    have q2 := X.used
    simp only [hF, hU, List.length_cons, State.stackLimits_setFrames, State.stackBytes_setFrames, hl9, hb9]
    refine ⟨⟨⟨⟨by omega, by omega, by omega, by omega, by omega, h6⟩, ?_⟩, ?_⟩, X.book⟩
    · show T.heap.size + R'.cells ≤ e.platform.maxCells
      omega
    · show T.slotsUsed + R'.slots ≤ e.platform.maxSlots
      omega
  · rw [State.stackLimits_setFrames]; rfl
  · rw [State.stackBytes_setFrames]; rfl
  · refine ⟨?_, Nat.le_refl _, Nat.le_refl _, ?_, ?_, fun a c9 h9 => ⟨c9, h9, rfl, rfl, fun _ _ => rfl⟩⟩
    · obtain ⟨t, ht, -⟩ := State.frames_cons hr
      show T.setVm s.vm = { ((T.setVm s.vm).setFrames (.invoking m args :: below)).setFrames (T.setVm s.vm).frames with heap := T.heap, slotsUsed := T.slotsUsed }
      rw [State.setFrames_setFrames, State.setFrames_self ht]
      rfl
    · show T.slotsUsed = T.slotsUsed + ((T.heap.toList.drop T.heap.size).map (·.slots.size)).sum
      rw [List.drop_eq_nil_of_le (Nat.le_of_eq Array.length_toList)]
      rfl
    · show ((T.heap.toList.drop T.heap.size).map (·.slots.size)).sum ≤ 0
      rw [List.drop_eq_nil_of_le (Nat.le_of_eq Array.length_toList)]
      exact Nat.le_refl _
/-- 'throw new E()': new; dup; invokespecial; athrow -/
theorem vx_throw0 {cc : ByteArray} {pc : Nat} (hexec : p.tables.exec = Jvm.exec) (hb : c.code = cc) (hl : l.stackTraces = false) {own cls : String} {names : List String} {ik ic mc ms : Nat} {A : Nat → Prop}
    (hown : s.vm.findClass own = some m.cls) (hcls : Bundle.fit cls = true) (hnames : ∀ n ∈ names, Bundle.fit n = true)
    (hk : (Cond.classLink own ik cls).before args s = true) (hini : (Cond.initialized cls).before args s = true) (hat : ∀ w ∈ vx_at0 own ic cls names, w.before args s = true)
    (hgood : ∀ w ∈ Cond.classLink own ik cls :: Cond.initialized cls :: vx_at0 own ic cls names, vx_ot w = true)
    (hU : vx_Zq Bundle.tN "UNASSIGNED_STACK" Bundle.steD A s s.heap) (hN : vx_Zq Bundle.tN "SUPPRESSED_SENTINEL" Bundle.listD A s s.heap) (hS : va_S A s.heap H locs) (hsize : ls.size = c.maxLocals)
    (d0 : decode cc pc = .ok (.new ik, 3)) (d3 : decode cc (pc + 3) = .ok (.dup, 1)) (d4 : decode cc (pc + 4) = .ok (.invokespecial ic, 3)) (d7 : decode cc (pc + 7) = .ok (.athrow, 1))
    (hout : ∀ x ∈ c.exceptionTable.toList, covers x (pc + 7) = false)
    (hRframes : names.length + 3 < R.frames) (hRlocals : (rest.map fun v => v.category).sum + (13 * (names.length + 1) + 42) ≤ R.locals) (hRcells : cells + 1 ≤ R.cells) (hRslots : slots + 6 ≤ R.slots) (hlocks : meth.locks = false)
    (hx : ∀ t : State, s.vm.Alike t.vm → H.size ≤ t.heap.size → (∀ q : Nat, q < H.size → t.heap[q]? = H[q]?) → XC cls s t)
    (hf : ∀ z ∈ locs, free z.base) (hc : cells + 1 ≤ mc) (hs : slots + 6 ≤ ms) :
    W p l e R s m args below meth c H locs cells slots (vx_MQ below Qc XC args s mc ms free) (F0 m pc ls rest) := by
  intro T hT X
  have htr : e.platform.stackTraces = false := (show e.platform.stackTraces = l.stackTraces by rw [X.admits.platform]).trans hl
  have Y := vx_rebase X (R' := { frames := R.frames, locals := R.locals, cells := 1, slots := 6 }) (Nat.le_refl _) (Nat.le_refl _) hRcells hRslots
  obtain ⟨s', hA⟩ : ∃ z, z = (T.setVm s.vm).setFrames (.invoking m args :: below) := ⟨_, rfl⟩
  rw [← hA] at Y
  have hvm : s'.vm = s.vm := by rw [hA]; rfl
  have hhp : s'.heap = H := by rw [hA]; exact hT
  have hW0 : s.WarmedH s'.vm := by rw [hvm]; exact State.WarmedH.refl s
  have hat' : ∀ w ∈ vx_at0 own ic cls names, w.before args s' = true := fun w hw => vx_ot_at hW0 hvm.symm (hgood w (List.mem_cons_of_mem _ (List.mem_cons_of_mem _ hw))) (hat w hw)
  have hk' : (Cond.classLink own ik cls).before args s' = true := vx_ot_at hW0 hvm.symm (hgood _ List.mem_cons_self) hk
  have hini' : (Cond.initialized cls).before args s' = true := vx_ot_at hW0 hvm.symm (hgood _ (List.mem_cons_of_mem _ List.mem_cons_self)) hini
  have hU' : vx_Zq Bundle.tN "UNASSIGNED_STACK" Bundle.steD A s' s'.heap := by rw [hhp]; exact vx_Zq.moved hW0.alike (hU.kept hS.2.1)
  have hN' : vx_Zq Bundle.tN "SUPPRESSED_SENTINEL" Bundle.listD A s' s'.heap := by rw [hhp]; exact vx_Zq.moved hW0.alike (hN.kept hS.2.1)
  have h : ∀ w ∈ Bundle.ownAtoms0 own ic cls names, w.before args s' = true := vx_own hat' (vx_isRefq hU'.1) (vx_isRefq hN'.1) hU'.2.word hN'.2.word
  have hown' : s'.vm.findClass own = some m.cls := by rw [hvm]; exact hown
  have hins : (Cond.instantiable cls 6).before args s' = true := h _ (by simp [Bundle.ownAtoms0])
  obtain ⟨vm₁, cX, kX, hfX, hkX, -, -, X₁, st1⟩ := Y.newCold hexec (own := own) (C := cls) (index := ik) (n := 6) hown' hk' hins hini'
    (g := F0 m pc ls rest) rfl (by rw [hb]; exact d0) (Nat.le_refl _) (Nat.le_refl _)
  generalize hT1 : (T.setVm vm₁).pushCell { cls := cX, slots := kX.instanceTypes.map defaultValue, vm := .none } = T1 at X₁ st1
  have hcat : (Value.ref T.heap.size).category = 1 := rfl
  have hcellA : T1.heap[T.heap.size]? = some (freshCell cX kX) := by rw [← hT1]; exact State.heap_pushCell_size _ _
  have d3' : decode c.code (pc + 3) = .ok (.dup, 1) := by rw [hb]; exact d3
  obtain ⟨U, hsteps, hrun, hend, hW, hsame, ce, hce, hO⟩ := X₁.ctorThrow0 hexec htr (own := own) (cls := cls) (names := names) (ic := ic) hown' hcls hnames h (fun x hx => nomatch hx) hfX hkX hcellA (by rw [hhp, hT]; exact Nat.le_refl _)
    (g := { method := m, pc := pc + 4, locals := ls, stack := .ref T.heap.size :: .ref T.heap.size :: rest, locked := none }) rfl hsize rfl rfl (rest := rest) rfl
    (by rw [hb]; exact d4) (by rw [hb]; exact d7) hout hRframes (by simp only [List.map_cons, List.sum_cons, hcat]; omega) hlocks
  obtain ⟨f1, f2⟩ := vx_frame hsame
  rw [hhp] at f1 f2
  have hWs : s.WarmedH U.vm := State.WarmedH.trans hW0 hW
  have hcl : s.vm.findClass cls = some ce.cls := by
    have h9 := hO.cls
    rw [hvm] at h9
    exact h9
  have hall : s.sameButNew ({ U with vm := s.vm } : State) locs mc ms := by
    subst hA
    obtain ⟨e1, e2⟩ := hsame
    rw [State.setFrames_setFrames] at e1
    have h2 : (T.setVm s.vm).sameButNew ({ U with vm := s.vm } : State) [] (0 + 1) (0 + 6) := ⟨e1, e2⟩
    have h3 := X.same.trans h2
    rw [List.append_nil] at h3
    exact h3.mono hc hs
  refine ⟨U, ?_, .threw T.heap.size, hrun, hend, Or.inr ⟨T.heap.size, rfl, cls, ce, locs, hx U hWs.alike f1 (fun q hq => f2 q hq (fun z hz => nomatch hz)), hce, hO.vm, hcl, hWs, hall, hf⟩⟩
  refine st1 _ ?_
  show Steps p.tables e below (T1.setTop { method := m, pc := pc + 3, locals := ls, stack := .ref T.heap.size :: rest, locked := none }) _
  jvm_step X₁.here [X₁.here.top, hexec, d3', Value.category]
  exact hsteps
/-- 'throw new E("text")': new; dup; ldc; invokespecial; athrow -/
theorem vx_throwS {cc : ByteArray} {pc : Nat} (hexec : p.tables.exec = Jvm.exec) (hb : c.code = cc) (hl : l.stackTraces = false) {own cls text : String} {names : List String} {ik is ic mc ms sa : Nat} {A : Nat → Prop}
    (hown : s.vm.findClass own = some m.cls) (hcls : Bundle.fit cls = true) (hnames : ∀ n ∈ names, Bundle.fit n = true)
    (hk : (Cond.classLink own ik cls).before args s = true) (hini : (Cond.initialized cls).before args s = true) (hstr : vk_R own is text sa s) (hat : ∀ w ∈ vx_atS own ic cls names, w.before args s = true)
    (hgood : ∀ w ∈ Cond.classLink own ik cls :: Cond.initialized cls :: vx_atS own ic cls names, vx_ot w = true)
    (hU : vx_Zq Bundle.tN "UNASSIGNED_STACK" Bundle.steD A s s.heap) (hN : vx_Zq Bundle.tN "SUPPRESSED_SENTINEL" Bundle.listD A s s.heap) (hS : va_S A s.heap H locs) (hsize : ls.size = c.maxLocals)
    (d0 : decode cc pc = .ok (.new ik, 3)) (d3 : decode cc (pc + 3) = .ok (.dup, 1)) (d4 : decode cc (pc + 4) = .ok (.ldc is, 2)) (d6 : decode cc (pc + 6) = .ok (.invokespecial ic, 3)) (d9 : decode cc (pc + 9) = .ok (.athrow, 1))
    (hout : ∀ x ∈ c.exceptionTable.toList, covers x (pc + 9) = false)
    (hRframes : names.length + 3 < R.frames) (hRlocals : (rest.map fun v => v.category).sum + (13 * (names.length + 1) + 43) ≤ R.locals) (hRcells : cells + 1 ≤ R.cells) (hRslots : slots + 6 ≤ R.slots) (hlocks : meth.locks = false)
    (hx : ∀ t : State, s.vm.Alike t.vm → H.size ≤ t.heap.size → (∀ q : Nat, q < H.size → t.heap[q]? = H[q]?) → XC cls s t)
    (hf : ∀ z ∈ locs, free z.base) (hc : cells + 1 ≤ mc) (hs : slots + 6 ≤ ms) :
    W p l e R s m args below meth c H locs cells slots (vx_MQ below Qc XC args s mc ms free) (F0 m pc ls rest) := by
  intro T hT X
  have htr : e.platform.stackTraces = false := (show e.platform.stackTraces = l.stackTraces by rw [X.admits.platform]).trans hl
  have Y := vx_rebase X (R' := { frames := R.frames, locals := R.locals, cells := 1, slots := 6 }) (Nat.le_refl _) (Nat.le_refl _) hRcells hRslots
  obtain ⟨s', hA⟩ : ∃ z, z = (T.setVm s.vm).setFrames (.invoking m args :: below) := ⟨_, rfl⟩
  rw [← hA] at Y
  have hvm : s'.vm = s.vm := by rw [hA]; rfl
  have hhp : s'.heap = H := by rw [hA]; exact hT
  have hW0 : s.WarmedH s'.vm := by rw [hvm]; exact State.WarmedH.refl s
  have hat' : ∀ w ∈ vx_atS own ic cls names, w.before args s' = true := fun w hw => vx_ot_at hW0 hvm.symm (hgood w (List.mem_cons_of_mem _ (List.mem_cons_of_mem _ hw))) (hat w hw)
  have hk' : (Cond.classLink own ik cls).before args s' = true := vx_ot_at hW0 hvm.symm (hgood _ List.mem_cons_self) hk
  have hini' : (Cond.initialized cls).before args s' = true := vx_ot_at hW0 hvm.symm (hgood _ (List.mem_cons_of_mem _ List.mem_cons_self)) hini
  have hU' : vx_Zq Bundle.tN "UNASSIGNED_STACK" Bundle.steD A s' s'.heap := by rw [hhp]; exact vx_Zq.moved hW0.alike (hU.kept hS.2.1)
  have hN' : vx_Zq Bundle.tN "SUPPRESSED_SENTINEL" Bundle.listD A s' s'.heap := by rw [hhp]; exact vx_Zq.moved hW0.alike (hN.kept hS.2.1)
  have h : ∀ w ∈ Bundle.ownAtoms own ic cls names, w.before args s' = true := vx_own hat' (vx_isRefq hU'.1) (vx_isRefq hN'.1) hU'.2.word hN'.2.word
  have hown' : s'.vm.findClass own = some m.cls := by rw [hvm]; exact hown
  have hins : (Cond.instantiable cls 6).before args s' = true := h _ (by simp [Bundle.ownAtoms])
  obtain ⟨vm₁, cX, kX, hfX, hkX, -, -, X₁, st1⟩ := Y.newCold hexec (own := own) (C := cls) (index := ik) (n := 6) hown' hk' hins hini'
    (g := F0 m pc ls rest) rfl (by rw [hb]; exact d0) (Nat.le_refl _) (Nat.le_refl _)
  generalize hT1 : (T.setVm vm₁).pushCell { cls := cX, slots := kX.instanceTypes.map defaultValue, vm := .none } = T1 at X₁ st1
  have hcat : (Value.ref T.heap.size).category = 1 := rfl
  have hcellA : T1.heap[T.heap.size]? = some (freshCell cX kX) := by rw [← hT1]; exact State.heap_pushCell_size _ _
  have d3' : decode c.code (pc + 3) = .ok (.dup, 1) := by rw [hb]; exact d3
  have d4' : decode c.code (pc + 4) = .ok (.ldc is, 2) := by rw [hb]; exact d4
  have hstr' : vk_R own is text sa s' := vk_R.warm hW0 hstr
  obtain ⟨U, hsteps, hrun, hend, hW, hsame, ce, hce, hO⟩ := X₁.ctorThrowS hexec htr (own := own) (cls := cls) (names := names) (ic := ic) hown' hcls hnames h (fun x hx => nomatch hx) hfX hkX hcellA (by rw [hhp, hT]; exact Nat.le_refl _) (msg := .ref sa) rfl
    (g := { method := m, pc := pc + 6, locals := ls, stack := .ref sa :: .ref T.heap.size :: .ref T.heap.size :: rest, locked := none }) rfl hsize rfl rfl (rest := rest) rfl
    (by rw [hb]; exact d6) (by rw [hb]; exact d9) hout hRframes (by simp only [List.map_cons, List.sum_cons, hcat]; omega) hlocks
  obtain ⟨f1, f2⟩ := vx_frame hsame
  rw [hhp] at f1 f2
  have hWs : s.WarmedH U.vm := State.WarmedH.trans hW0 hW
  have hcl : s.vm.findClass cls = some ce.cls := by
    have h9 := hO.cls
    rw [hvm] at h9
    exact h9
  have hall : s.sameButNew ({ U with vm := s.vm } : State) locs mc ms := by
    subst hA
    obtain ⟨e1, e2⟩ := hsame
    rw [State.setFrames_setFrames] at e1
    have h2 : (T.setVm s.vm).sameButNew ({ U with vm := s.vm } : State) [] (0 + 1) (0 + 6) := ⟨e1, e2⟩
    have h3 := X.same.trans h2
    rw [List.append_nil] at h3
    exact h3.mono hc hs
  refine ⟨U, ?_, .threw T.heap.size, hrun, hend, Or.inr ⟨T.heap.size, rfl, cls, ce, locs, hx U hWs.alike f1 (fun q hq => f2 q hq (fun z hz => nomatch hz)), hce, hO.vm, hcl, hWs, hall, hf⟩⟩
  refine st1 _ ?_
  show Steps p.tables e below (T1.setTop { method := m, pc := pc + 3, locals := ls, stack := .ref T.heap.size :: rest, locked := none }) _
  jvm_step X₁.here [X₁.here.top, hexec, d3', Value.category]
  exact X₁.ldcString hexec (own := own) (text := text) (index := is) (a := sa) hown' hstr'.1 hstr'.2
    (g := { method := m, pc := pc + 4, locals := ls, stack := .ref T.heap.size :: .ref T.heap.size :: rest, locked := none }) rfl d4' _ hsteps
/-- 'throw new E("text")', the text by a wide index -/
theorem vx_throwSW {cc : ByteArray} {pc : Nat} (hexec : p.tables.exec = Jvm.exec) (hb : c.code = cc) (hl : l.stackTraces = false) {own cls text : String} {names : List String} {ik is ic mc ms sa : Nat} {A : Nat → Prop}
    (hown : s.vm.findClass own = some m.cls) (hcls : Bundle.fit cls = true) (hnames : ∀ n ∈ names, Bundle.fit n = true)
    (hk : (Cond.classLink own ik cls).before args s = true) (hini : (Cond.initialized cls).before args s = true) (hstr : vk_R own is text sa s) (hat : ∀ w ∈ vx_atS own ic cls names, w.before args s = true)
    (hgood : ∀ w ∈ Cond.classLink own ik cls :: Cond.initialized cls :: vx_atS own ic cls names, vx_ot w = true)
    (hU : vx_Zq Bundle.tN "UNASSIGNED_STACK" Bundle.steD A s s.heap) (hN : vx_Zq Bundle.tN "SUPPRESSED_SENTINEL" Bundle.listD A s s.heap) (hS : va_S A s.heap H locs) (hsize : ls.size = c.maxLocals)
    (d0 : decode cc pc = .ok (.new ik, 3)) (d3 : decode cc (pc + 3) = .ok (.dup, 1)) (d4 : decode cc (pc + 4) = .ok (.ldc_w is, 3)) (d7 : decode cc (pc + 7) = .ok (.invokespecial ic, 3)) (d10 : decode cc (pc + 10) = .ok (.athrow, 1))
    (hout : ∀ x ∈ c.exceptionTable.toList, covers x (pc + 10) = false)
    (hRframes : names.length + 3 < R.frames) (hRlocals : (rest.map fun v => v.category).sum + (13 * (names.length + 1) + 43) ≤ R.locals) (hRcells : cells + 1 ≤ R.cells) (hRslots : slots + 6 ≤ R.slots) (hlocks : meth.locks = false)
    (hx : ∀ t : State, s.vm.Alike t.vm → H.size ≤ t.heap.size → (∀ q : Nat, q < H.size → t.heap[q]? = H[q]?) → XC cls s t)
    (hf : ∀ z ∈ locs, free z.base) (hc : cells + 1 ≤ mc) (hs : slots + 6 ≤ ms) :
    W p l e R s m args below meth c H locs cells slots (vx_MQ below Qc XC args s mc ms free) (F0 m pc ls rest) := by
  intro T hT X
  have htr : e.platform.stackTraces = false := (show e.platform.stackTraces = l.stackTraces by rw [X.admits.platform]).trans hl
  have Y := vx_rebase X (R' := { frames := R.frames, locals := R.locals, cells := 1, slots := 6 }) (Nat.le_refl _) (Nat.le_refl _) hRcells hRslots
  obtain ⟨s', hA⟩ : ∃ z, z = (T.setVm s.vm).setFrames (.invoking m args :: below) := ⟨_, rfl⟩
  rw [← hA] at Y
  have hvm : s'.vm = s.vm := by rw [hA]; rfl
  have hhp : s'.heap = H := by rw [hA]; exact hT
  have hW0 : s.WarmedH s'.vm := by rw [hvm]; exact State.WarmedH.refl s
  have hat' : ∀ w ∈ vx_atS own ic cls names, w.before args s' = true := fun w hw => vx_ot_at hW0 hvm.symm (hgood w (List.mem_cons_of_mem _ (List.mem_cons_of_mem _ hw))) (hat w hw)
  have hk' : (Cond.classLink own ik cls).before args s' = true := vx_ot_at hW0 hvm.symm (hgood _ List.mem_cons_self) hk
  have hini' : (Cond.initialized cls).before args s' = true := vx_ot_at hW0 hvm.symm (hgood _ (List.mem_cons_of_mem _ List.mem_cons_self)) hini
  have hU' : vx_Zq Bundle.tN "UNASSIGNED_STACK" Bundle.steD A s' s'.heap := by rw [hhp]; exact vx_Zq.moved hW0.alike (hU.kept hS.2.1)
  have hN' : vx_Zq Bundle.tN "SUPPRESSED_SENTINEL" Bundle.listD A s' s'.heap := by rw [hhp]; exact vx_Zq.moved hW0.alike (hN.kept hS.2.1)
  have h : ∀ w ∈ Bundle.ownAtoms own ic cls names, w.before args s' = true := vx_own hat' (vx_isRefq hU'.1) (vx_isRefq hN'.1) hU'.2.word hN'.2.word
  have hown' : s'.vm.findClass own = some m.cls := by rw [hvm]; exact hown
  have hins : (Cond.instantiable cls 6).before args s' = true := h _ (by simp [Bundle.ownAtoms])
  obtain ⟨vm₁, cX, kX, hfX, hkX, -, -, X₁, st1⟩ := Y.newCold hexec (own := own) (C := cls) (index := ik) (n := 6) hown' hk' hins hini'
    (g := F0 m pc ls rest) rfl (by rw [hb]; exact d0) (Nat.le_refl _) (Nat.le_refl _)
  generalize hT1 : (T.setVm vm₁).pushCell { cls := cX, slots := kX.instanceTypes.map defaultValue, vm := .none } = T1 at X₁ st1
  have hcat : (Value.ref T.heap.size).category = 1 := rfl
  have hcellA : T1.heap[T.heap.size]? = some (freshCell cX kX) := by rw [← hT1]; exact State.heap_pushCell_size _ _
  have d3' : decode c.code (pc + 3) = .ok (.dup, 1) := by rw [hb]; exact d3
  have d4' : decode c.code (pc + 4) = .ok (.ldc_w is, 3) := by rw [hb]; exact d4
  have hstr' : vk_R own is text sa s' := vk_R.warm hW0 hstr
  obtain ⟨U, hsteps, hrun, hend, hW, hsame, ce, hce, hO⟩ := X₁.ctorThrowS hexec htr (own := own) (cls := cls) (names := names) (ic := ic) hown' hcls hnames h (fun x hx => nomatch hx) hfX hkX hcellA (by rw [hhp, hT]; exact Nat.le_refl _) (msg := .ref sa) rfl
    (g := { method := m, pc := pc + 7, locals := ls, stack := .ref sa :: .ref T.heap.size :: .ref T.heap.size :: rest, locked := none }) rfl hsize rfl rfl (rest := rest) rfl
    (by rw [hb]; exact d7) (by rw [hb]; exact d10) hout hRframes (by simp only [List.map_cons, List.sum_cons, hcat]; omega) hlocks
  obtain ⟨f1, f2⟩ := vx_frame hsame
  rw [hhp] at f1 f2
  have hWs : s.WarmedH U.vm := State.WarmedH.trans hW0 hW
  have hcl : s.vm.findClass cls = some ce.cls := by
    have h9 := hO.cls
    rw [hvm] at h9
    exact h9
  have hall : s.sameButNew ({ U with vm := s.vm } : State) locs mc ms := by
    subst hA
    obtain ⟨e1, e2⟩ := hsame
    rw [State.setFrames_setFrames] at e1
    have h2 : (T.setVm s.vm).sameButNew ({ U with vm := s.vm } : State) [] (0 + 1) (0 + 6) := ⟨e1, e2⟩
    have h3 := X.same.trans h2
    rw [List.append_nil] at h3
    exact h3.mono hc hs
  refine ⟨U, ?_, .threw T.heap.size, hrun, hend, Or.inr ⟨T.heap.size, rfl, cls, ce, locs, hx U hWs.alike f1 (fun q hq => f2 q hq (fun z hz => nomatch hz)), hce, hO.vm, hcl, hWs, hall, hf⟩⟩
  refine st1 _ ?_
  show Steps p.tables e below (T1.setTop { method := m, pc := pc + 3, locals := ls, stack := .ref T.heap.size :: rest, locked := none }) _
  jvm_step X₁.here [X₁.here.top, hexec, d3', Value.category]
  exact X₁.ldcStringW hexec (own := own) (text := text) (index := is) (a := sa) hown' hstr'.1 hstr'.2
    (g := { method := m, pc := pc + 4, locals := ls, stack := .ref T.heap.size :: .ref T.heap.size :: rest, locked := none }) rfl d4' _ hsteps
end Ends
section Bodies
variable {l : Launch}
theorem vx_ofW {y : MethodName} {ws ws' : List Cond} {rm : Room} {Pc : Array Value → State → Prop} {Qc : Array Value → State → Outcome → State → Prop} {XC : String → State → State → Prop} {mc ms : Nat} {free : Addr → Prop} {cc : ByteArray} {maxL : Nat} {ret : Option FieldType}
    (hy : plainName y.cls = true) (hw : ws = Cond.code y cc maxL ret :: ws')
    (body : ∀ p e s m args below meth c s₁, BodyLoose p l y (headSpec ws rm) cc maxL ret e s m args below meth c s₁ → c.maxLocals = maxL → (∀ x ∈ c.exceptionTable.toList, False) → Pc args s →
      W p l e (headSpec ws rm).room s m args below meth c s.heap [] 0 0 (vx_MQ below Qc XC args s mc ms free) (entryFrame m args maxL)) : vx_Met l y ws rm Pc Qc XC mc ms free := by
  refine MetFree.of_bodyS (code := cc) (maxLocals := maxL) (ret := ret) hy ?_ ?_
  · intro args s m h hn
    obtain ⟨meth, c, h1, h2, h3, h4, h5, h6, -, -⟩ := Cond.code_spec hn (atoms_spec (ws := ws) h _ (by rw [hw]; exact List.mem_cons_self))
    exact ⟨meth, c, h1, h2, h3, h4, h5, h6⟩
  · intro p e s m args below meth c s₁ B hml hP _
    have hh0 : s₁.heap = s.heap := by rw [B.state]; rfl
    have ht : ∀ x ∈ c.exceptionTable.toList, False := by
      obtain ⟨meth9, c9, h1, h2, -, -, -, -, h7, -⟩ := Cond.code_spec B.named (atoms_spec (ws := ws) B.pre _ (by rw [hw]; exact List.mem_cons_self))
      cases Option.some.inj (h1.symm.trans B.method)
      cases Option.some.inj (h2.symm.trans (Stand.of_body B).code)
      intro x hx
      rw [Array.isEmpty_iff.mp h7] at hx
      cases hx
    obtain ⟨t, a1, o, b1, b2, b3⟩ := body p e s m args below meth c s₁ B hml ht hP s₁ hh0 (Stand.of_body B)
    exact ⟨t, o, a1, b1, b2, b3⟩
/-- the table of a body with handlers -/
theorem vx_table {p : Program} {x y : MethodName} {S : Spec} {cc bytes : ByteArray} {maxL maxL' : Nat} {ret ret' : Option FieldType} {e : Env} {s s₁ : State} {m : MethodId} {args : Array Value} {below : List Frame} {meth : Method} {c : Code} {hh : List (Nat × Nat × Nat × Nat)}
    (B : BodyLoose p l y S cc maxL ret e s m args below meth c s₁) (h : (Cond.codeWith y bytes maxL' ret' hh).before args s = true) : c.exceptionTable.toList = tableOf hh := by
  obtain ⟨m9, meth9, c9, hn9, h1, h2, -, -, h6, -⟩ := Cond.codeWith_spec h
  cases Option.some.inj (hn9.symm.trans B.named)
  cases Option.some.inj (h1.symm.trans B.method)
  cases Option.some.inj (h2.symm.trans (Stand.of_body B).code)
  rw [← h6, table_eq]
end Bodies
end VXA
/-! ===== END ===== -/
/-! ===== BEGIN a static call of a method with an exception table ===== -/
section VXS
variable {p : Program} {l : Launch} {e : Env} {R : Room} {s : State} {m : MethodId} {args : Array Value} {below : List Frame} {meth : Method} {c : Code} {T : State} {H : Heap} {locs : List Loc} {cells slots : Nat}
abbrev vx_CSW (R : Room) (s : State) (args : Array Value) (own : String) (index : Nat) (y : MethodName) (bytes : ByteArray) (maxL : Nat) (ret : Option FieldType) (hh : List (Nat × Nat × Nat × Nat)) (ws : List Cond) (rm : Room) (mc ms n : Nat) : Prop :=
  (rm.cells = mc ∧ rm.slots = ms ∧ rm.frames + 1 ≤ R.frames ∧ 8 + (maxL + 11) + rm.locals ≤ R.locals ∧ (∀ w ∈ ws, ∀ (a' : Array Value) (U : State), s.WarmedH U.vm → w.before a' U = true) ∧ Cond.codeWith y bytes maxL ret hh ∈ ws) ∧
  (Cond.codeWith y bytes maxL ret hh).before args s = true ∧ (Cond.initialized y.cls).before args s = true ∧ (y.cls ≠ "java/lang/invoke/MethodHandle" ∧ y.cls ≠ "java/lang/invoke/VarHandle") ∧
  (∀ sig, parseMethodDescriptor y.desc = some sig → n = sig.parameters.length) ∧ (Cond.methodLink own index y).before args s = true ∧ (Cond.static y).before args s = true
theorem vx_cwSW {own : String} {index maxL mc ms : Nat} {y : MethodName} {bytes : ByteArray} {ret : Option FieldType} {hh : List (Nat × Nat × Nat × Nat)} {Ts ws ws' : List Cond} {rm : Room} (n : Nat) (ht : ∀ w ∈ Ts, w.before args s = true) (hT : GoodIn Ts (va_wsS own index y ws)) (hw : ws = Cond.codeWith y bytes maxL ret hh :: ws') (hrc : rm.cells = mc) (hrs : rm.slots = ms)
    (hd : y.cls ≠ "java/lang/invoke/MethodHandle" ∧ y.cls ≠ "java/lang/invoke/VarHandle" ∧ (parseMethodDescriptor y.desc).map (fun d => d.parameters.length) = some n) (hR : rm.frames + 1 ≤ R.frames ∧ 8 + (maxL + 11) + rm.locals ≤ R.locals) :
    vx_CSW R s args own index y bytes maxL ret hh ws rm mc ms n := by
  have ok : ∀ w ∈ va_wsS own index y ws, w.before args s = true := fun w h => ht w (hT w h).1
  have hG : GoodIn Ts ws := fun w h => hT w (by unfold va_wsS; exact List.mem_append_right _ h)
  have hc : Cond.codeWith y bytes maxL ret hh ∈ ws := by rw [hw]; exact List.mem_cons_self
  refine ⟨⟨hrc, hrs, hR.1, hR.2, pay_in ht hG, hc⟩, ht _ (hG _ hc).1, ok _ (by simp [va_wsS]), ⟨hd.1, hd.2.1⟩, fun sig h => ?_, ok _ (by simp [va_wsS]), ok _ (by simp [va_wsS])⟩
  have h2 := hd.2.2
  rw [h] at h2
  exact (Option.some.inj h2).symm
theorem vx_callSW (X : Stand p l e R s m args below meth c T locs cells slots) (hexec : p.tables.exec = Jvm.exec) {own : String} {index : Nat} {y : MethodName} {bytes : ByteArray} {maxL : Nat} {ret : Option FieldType} {hh : List (Nat × Nat × Nat × Nat)}
    (hown : s.vm.findClass own = some m.cls) (hlink : (Cond.methodLink own index y).before args s = true) (hstat : (Cond.static y).before args s = true) (hinit : (Cond.initialized y.cls).before args s = true)
    (hcode : (Cond.codeWith y bytes maxL ret hh).before args s = true) (hy : y.cls ≠ "java/lang/invoke/MethodHandle" ∧ y.cls ≠ "java/lang/invoke/VarHandle")
    {W9 : Nat} {Pre : Pt → Array Value → Prop} {Post : Pt → Array Value → Option Value → Pt → Prop} (hK : Back l R p e below s args y 3 W9 Pre Post)
    {g : JFrame} (hg : g.method = m) (hsize : g.locals.size = c.maxLocals) {argsL rest : List Value} (hlen : ∀ sig, parseMethodDescriptor y.desc = some sig → argsL.length = sig.parameters.length)
    (hstack : g.stack = argsL.reverse ++ rest) (hW : 2 * g.monitorRoom + (rest.map fun v => v.category).sum ≤ W9) (hdg : decode c.code g.pc = .ok (.invokestatic index, 3))
    (hpre : ∀ vm₁, s.WarmedH vm₁ → Pre ⟨T.setVm vm₁, locs, cells, slots⟩ argsL.toArray) :
    ∃ (v : Option Value) (vm₁ : Vm) (B : Pt), s.WarmedH vm₁ ∧ Stand p l e R s m args below meth c B.U B.locs B.cells B.slots ∧ Post ⟨T.setVm vm₁, locs, cells, slots⟩ argsL.toArray v B ∧
      ∀ target, Steps p.tables e below (B.U.setTop { g with pc := g.pc + 3, stack := v.toList ++ rest }) target → Steps p.tables e below (T.setTop g) target := by
  obtain ⟨mk, methM, cM, hnamed, hmethM, -, -, -, -, -, -, hsigM⟩ := Cond.codeWith_spec hcode
  have hstatic : methM.isStatic = true := Cond.static_spec hnamed hmethM hstat
  obtain ⟨kP, hkP, -⟩ := className_of_methodNamed hnamed
  have hinitP : kP.init = .initialized := Cond.initialized_spec (findClass_of_methodNamed hnamed) hkP hinit
  obtain ⟨vm₁, X₁, hstep₁⟩ := X.invokestatic hexec hown hlink hnamed hmethM hstatic hkP hinitP hy (g := g) hg (argsL := argsL) (rest := rest) (hlen _ hsigM) hstack hdg
  obtain ⟨v, B, X', hpost, hsteps⟩ := hK m meth c ⟨T.setVm vm₁, locs, cells, slots⟩ { g with stack := rest } (.invokestatic index) mk argsL.toArray X₁ hg hsize hdg hW (X₁.named hnamed) (hpre vm₁ X₁.warmed)
  exact ⟨v, vm₁, B, X₁.warmed, X', hpost, fun target h => hstep₁ _ fun acts => by rw [doInvoke_state]; exact hsteps.trans h⟩
theorem vx_runSW {y : MethodName} {bytes cc : ByteArray} {maxL nL mc ms n index : Nat} {ret : Option FieldType} {hh : List (Nat × Nat × Nat × Nat)} {ws : List Cond} {rm : Room} {Pc : Array Value → State → Prop} {Qc : Array Value → State → Outcome → State → Prop} {free : Addr → Prop} {Ts : List Cond} {own : String} {As rest : List Value} {g : JFrame}
    (S : CallFix p m c cc nL s args Ts own) (hM : Met l y ws rm Pc Qc mc ms free) (cw : vx_CSW R s args own index y bytes maxL ret hh ws rm mc ms n) (hp : PreS s H Pc As)
    (hg : g.method = m) (hn : As.length = n) (hsize : g.locals.size = nL) (hstack : g.stack = As.reverse ++ rest) (hW : 2 * g.monitorRoom + (rest.map fun v => v.category).sum ≤ 8) (hdg : decode cc g.pc = .ok (.invokestatic index, 3)) (hf : cells + mc ≤ R.cells ∧ slots + ms ≤ R.slots) :
    va_Run p l e R s m args below meth c H locs cells slots mc ms g rest (Qc As.toArray) (free) := by
  obtain ⟨⟨hrc, hrs, hfr, hlo, hws, hcw⟩, hcode, hini, hy, hlen, hl, hstt⟩ := cw
  have hK : Back l R p e below s args y 3 8 (PreOf R mc ms Pc) (PostOf Qc mc ms free) := va_backW (hh := hh) (bytes := bytes) (maxL := maxL) (ret := ret) hM hp.1 hrc hrs hfr hlo hws hcw (fun a' U hW => word_at hW (Or.inl (by first | rfl | simp [Cond.onTables, Cond.keeps, Cond.steady])) hini)
  obtain ⟨hx, hb, hml, ho, -⟩ := S
  intro T hT X
  obtain ⟨v, vm₁, ⟨U', l2, c2, s2⟩, hW₁, X', ⟨g', mk, t, L, e1, e2, hq, h1, hL, h2, h3⟩, st⟩ := vx_callSW X hx (hh := hh) (bytes := bytes) (maxL := maxL) (ret := ret) ho hl hstt hini hcode hy hK hg (hsize.trans hml.symm) (argsL := As) (rest := rest) (fun sig h => hn.trans (hlen sig h)) hstack hW (by rw [hb]; exact hdg)
    (fun vm₁ hW₁ => ⟨hf.1, hf.2, hp.2 (T.setVm vm₁) hT hW₁⟩)
  dsimp only [Pt.U, Pt.locs, Pt.cells, Pt.slots] at X' e1 e2 h1 h2 h3 st
  subst h1; subst h2; subst h3
  exact ⟨v, (T.setVm vm₁).calling g' mk As.toArray, t, U', L, hT, X', hL, e1, e2, hq, st⟩
/-- not caught here, past rows that name other classes: it goes on to the caller -/
theorem vx_outP {p : Program} {l : Launch} {e : Env} {R : Room} {s : State} {m : MethodId} {args : Array Value} {below : List Frame} {meth : Method} {c : Code} {H : Heap} {locs : List Loc} {cells slots : Nat} {free : Addr → Prop} {ls : Array Slot} {rest : List Value} {Qc : Array Value → State → Outcome → State → Prop} {XC : String → State → State → Prop}
    {pc : Nat} {own E : String} {ce : Cell} {q : Addr} {mc ms : Nat} (hown : s.vm.findClass own = some m.cls) (hlocks : meth.locks = false)
    (hpass : ∀ z ∈ c.exceptionTable.toList, covers z pc = false ∨ (z.catchType ≠ 0 ∧ ∃ nm : String, (Cond.classLink own z.catchType nm).before args s = true ∧ va_Nc E nm s)) (hcell : H[q]? = some ce) (hv : ce.vm = .none) (hcl : s.vm.findClass E = some ce.cls)
    (hx : ∀ t : State, t.heap = H → s.vm.Alike t.vm → XC E s t) (hf : ∀ z ∈ locs, free z.base) (hc : cells ≤ mc) (hs : slots ≤ ms) :
    vx_W p l e R s m args below meth c H locs cells slots (vx_MQ below Qc XC args s mc ms free) (F0 m pc ls rest) q := by
  intro T hT X
  have hpl : e.platform.magicAccessors = ({} : Platform).magicAccessors := by rw [X.admits.platform]
  obtain ⟨vm', hW', X', st⟩ := X.outThrough hlocks q (g := F0 m pc ls rest) rfl rfl rfl (cell := ce) (by rw [hT]; exact hcell) (by rw [hv]; rfl)
    (by obtain ⟨k9, h9, -⟩ := Vm.findClass_spec hcl; exact ⟨k9, h9⟩) (fun z hz => by
      rcases hpass z hz with h | ⟨hz0, nm, hl1, hn1⟩
      · exact Or.inl h
      · obtain ⟨c6, hc6, hcl6⟩ := Cond.classLink_spec hown hl1 e.platform hpl
        obtain ⟨a8, b8, h1, h2, h3⟩ := hn1
        cases Option.some.inj (h1.symm.trans hcl)
        cases Option.some.inj (h2.symm.trans hc6)
        exact Or.inr ⟨hz0, _, hcl6, h3⟩)
  obtain ⟨g₀, hfr⟩ := X'.frames_eq
  have hcell9 : ((T.setVm vm').setFrames (.throwing q :: below)).heap[q]? = some ce := by
    show T.heap[q]? = some ce
    rw [hT]; exact hcell
  have hend : Ended ((T.setVm vm').setFrames (.throwing q :: below)) below (.threw q) := State.frames_setFrames _ (State.cur_lt_of_frames hfr)
  refine ⟨(T.setVm vm').setFrames (.throwing q :: below), ?_, .threw q, X'.here.running, hend, Or.inr ⟨q, rfl, E, ce, locs, hx _ hT (X'.ends _).1.alike, hcell9, hv, hcl, (X'.ends _).1, (X'.ends _).2.mono hc hs, hf⟩⟩
  rw [X.pushThrowing_eq]
  exact st
/-- a thing of a world lies in the heap -/
theorem vx_lt {D : va_G} {cl : List vw_C} {ws : va_W} {H1 : Heap} (h : va_P D cl ws H1) {k : Nat} {q : Nat × va_E} (hk : ws[k]? = some q) : q.1 < H1.size := (h k q hk).lt
end VXS
/-! ===== END ===== -/
/-! ===== BEGIN methods with a table of their own: called by a name, returning or throwing ===== -/
section VXH
/-! vx_backW, vx_callVX, vx_callSX, vx_callVW, vx_runVW, vx_runVX, vx_runSX, vx_ofWH follow the same proofs as their sisters above (Free/Laws.lean, Shelf42/LK1.lean); vx_outP calls Shelf42/NT130.lean (outThrough). -/
section
variable {l : Launch} {R : Room} {p : Program} {e : Env} {below : List Frame} {s : State} {sargs : Array Value} {y : MethodName} {len W9 : Nat}
theorem vx_backW {ws : List Cond} {rm : Room} {Pc : Array Value → State → Prop} {Qc : Array Value → State → Outcome → State → Prop} {XC : String → State → State → Prop} {mc ms : Nat} {free : Addr → Prop} {bytes : ByteArray} {maxL : Nat} {ret : Option FieldType} {hh : List (Nat × Nat × Nat × Nat)}
    (hM : vx_Met l y ws rm Pc Qc XC mc ms free) (hblind : FrameBlind Pc) (hrc : rm.cells = mc) (hrs : rm.slots = ms)
    (hframes : rm.frames + 1 ≤ R.frames) (hlocals : W9 + (maxL + 11) + rm.locals ≤ R.locals)
    (hws : ∀ w ∈ ws, ∀ a' U, s.WarmedH U.vm → w.before a' U = true) (hcode : Cond.codeWith y bytes maxL ret hh ∈ ws) (hinit : ∀ a' U, s.WarmedH U.vm → (Cond.initialized y.cls).before a' U = true) :
    vx_Back l R p e below s sargs y len W9 (PreOf R mc ms Pc) (PostOf Qc mc ms free) (vx_Post XC mc ms free) := by
  intro m meth c A g ig mk a X hg hsize hdg hW hn hp
  have h1 : (headSpec ws rm).pre.before a A.U = true := atoms_intro fun w hw => hws w hw _ _ X.warmed
  have h2 : (Cond.codeWith y bytes maxL ret hh).before a A.U = true := hws _ hcode _ _ X.warmed
  have h3 : (Cond.initialized y.cls).before a A.U = true := hinit _ _ X.warmed
  have h4 : A.cells + (headSpec ws rm).room.cells ≤ R.cells := by rw [show (headSpec ws rm).room.cells = mc from hrc]; exact hp.1
  have h5 : A.slots + (headSpec ws rm).room.slots ≤ R.slots := by rw [show (headSpec ws rm).room.slots = ms from hrs]; exact hp.2.1
  have hPc : Pc a (A.U.calling g mk a) := hblind _ _ _ _ hp.2.2
  obtain ⟨U, Ls, c0, s0⟩ := A
  dsimp only [Pt.U, Pt.locs, Pt.cells, Pt.slots] at h1 h2 h3 h4 h5 X hn hPc ⊢
  obtain ⟨m9, methY, cY, hn9, hmY, hcY, -, hlY, -⟩ := Cond.codeWith_spec h2
  cases Option.some.inj (hn9.symm.trans hn)
  obtain ⟨kY, hkY, -⟩ := className_of_methodNamed hn
  have hinitY : kY.init = .initialized := Cond.initialized_spec (findClass_of_methodNamed hn) hkY h3
  have h : At U g.method c below := by rw [hg]; exact X.here
  have hlocals9 : W9 + (maxL + 11) + (headSpec ws rm).room.locals ≤ R.locals := hlocals
  have happ : (headSpec ws rm).appliesLoose y e.platform (U.calling g mk a) = true :=
    Spec.appliesLoose_calling (g := g) h hdg hn hkY hinitY
      (X.room_calling (g := g) (R' := (headSpec ws rm).room) hsize hmY hcY hframes (by rw [hlY]; omega) h4 h5) h1
  obtain ⟨mid, hmid⟩ := h.above
  have hfr : (U.setTop g).frames = (.java g :: mid) ++ below := by rw [State.frames_setTop' g h.top, hmid]; rfl
  obtain ⟨o, s₂, hsteps, -, hend, hq⟩ := Steps.callFree hM p X.admits X.cas X.clock (acts := []) hfr happ hPc trivial
  have hq' : vx_Q Qc XC mc ms free a (U.calling g mk a) o s₂ := hq
  rw [State.frames_setTop' g h.top] at hend
  obtain ⟨g₀, hg0⟩ := Option.isSome_iff_exists.mp h.top
  obtain ⟨r, hr⟩ := State.topJava?_eq_some.mp hg0
  have hr' : (({ U with heap := s₂.heap, slotsUsed := s₂.slotsUsed } : State).setVm s₂.vm).frames = .java g₀ :: r := hr
  rcases hq' with ⟨hqc, L, hfe, hL⟩ | ⟨q, rfl, E, ce, L, hx, hce, hcv, hcl, hW₂, hsm, hL⟩
  · obtain ⟨⟨v, rfl⟩, hW₂, e2, q2, q3, q4, q5, q6⟩ := id hfe
    have e3 : s₂ = ({ (U.calling g mk a).setFrames s₂.frames with heap := s₂.heap, slotsUsed := s₂.slotsUsed } : State).setVm s₂.vm := by
      have : s₂ = ({ s₂ with vm := (U.calling g mk a).vm } : State).setVm s₂.vm := rfl
      rw [e2] at this
      exact this
    obtain ⟨c₂, i₂, len₂, hc₂, hd₂, hf₂⟩ := hend
    have hW' : U.WarmedH s₂.vm := hW₂
    have hcc : c₂ = c := by
      have h1 : s₂.code? g.method = U.code? g.method := by
        rw [State.code?_eq, State.code?_eq, hW'.alike.method?]
      exact Option.some.inj (hc₂.symm.trans (h1.trans h.code))
    subst hcc
    have hlen : len₂ = len := by rw [hdg] at hd₂; cases hd₂; rfl
    subst hlen
    have hs₂ : s₂ = (({ U with heap := s₂.heap, slotsUsed := s₂.slotsUsed } : State).setVm s₂.vm).setTop { g with pc := g.pc + len₂, stack := v.toList ++ g.stack } := by
      refine e3.trans ?_
      rw [hf₂, State.calling_eq h.top, State.setFrames_setFrames, State.setTop_of_frames _ hr', hr]
      rfl
    have hsame : U.sameButNew ({ U with heap := s₂.heap, slotsUsed := s₂.slotsUsed } : State) L mc ms := by
      refine ⟨?_, q2, q3, q4, q5, q6⟩
      obtain ⟨t, ht, -⟩ := State.frames_cons hr
      show ({ U with heap := s₂.heap, slotsUsed := s₂.slotsUsed } : State) = { U.setFrames U.frames with heap := s₂.heap, slotsUsed := s₂.slotsUsed }
      rw [State.setFrames_self ht]
    subst hg
    refine Or.inl ⟨v, ⟨(({ U with heap := s₂.heap, slotsUsed := s₂.slotsUsed } : State).setVm s₂.vm), Ls ++ L, c0 + mc, s0 + ms⟩,
      ⟨X.admits, X.cas, X.clock, X.frames, X.room, X.hears, X.method, X.code, (X.here.setHeapUsed s₂.heap s₂.slotsUsed).setVm hW'.alike, X.tail, State.WarmedH.trans X.warmed hW', X.limits, X.bytes, X.same.trans (hsame.setVm s.vm)⟩,
      ⟨g, mk, s₂, L, rfl, rfl, hqc, rfl, hL, rfl, rfl⟩, ?_⟩
    show Steps p.tables e below _ ((({ U with heap := s₂.heap, slotsUsed := s₂.slotsUsed } : State).setVm s₂.vm).setTop { g with pc := g.pc + len₂, stack := v.toList ++ g.stack })
    rw [← hs₂]
    exact hsteps
  · obtain ⟨e2, q2, q3, q4, q5, q6⟩ := id hsm
    have e3 : s₂ = ({ (U.calling g mk a).setFrames s₂.frames with heap := s₂.heap, slotsUsed := s₂.slotsUsed } : State).setVm s₂.vm := by
      have : s₂ = ({ s₂ with vm := (U.calling g mk a).vm } : State).setVm s₂.vm := rfl
      rw [e2] at this
      exact this
    have hf₂ : s₂.frames = .throwing q :: .java g :: U.frames.tail := hend
    have hW' : U.WarmedH s₂.vm := hW₂
    have hs₂ : s₂ = ((({ U with heap := s₂.heap, slotsUsed := s₂.slotsUsed } : State).setVm s₂.vm).setTop g).pushFrame (.throwing q) := by
      refine e3.trans ?_
      rw [hf₂, State.calling_eq h.top, State.setFrames_setFrames, State.pushFrame, State.frames_setTop _ hr', State.setTop_of_frames _ hr', State.setFrames_setFrames, hr]
      rfl
    have hsame : U.sameButNew ({ U with heap := s₂.heap, slotsUsed := s₂.slotsUsed } : State) L mc ms := by
      refine ⟨?_, q2, q3, q4, q5, q6⟩
      obtain ⟨t, ht, -⟩ := State.frames_cons hr
      show ({ U with heap := s₂.heap, slotsUsed := s₂.slotsUsed } : State) = { U.setFrames U.frames with heap := s₂.heap, slotsUsed := s₂.slotsUsed }
      rw [State.setFrames_self ht]
    subst hg
    refine Or.inr ⟨q, ⟨(({ U with heap := s₂.heap, slotsUsed := s₂.slotsUsed } : State).setVm s₂.vm), Ls ++ L, c0 + mc, s0 + ms⟩,
      ⟨X.admits, X.cas, X.clock, X.frames, X.room, X.hears, X.method, X.code, (X.here.setHeapUsed s₂.heap s₂.slotsUsed).setVm hW'.alike, X.tail, State.WarmedH.trans X.warmed hW', X.limits, X.bytes, X.same.trans (hsame.setVm s.vm)⟩,
      ⟨g, mk, s₂, L, E, ce, rfl, rfl, hx, hce, hcv, hcl, rfl, hL, rfl, rfl⟩, ?_⟩
    show Steps p.tables e below _ (((({ U with heap := s₂.heap, slotsUsed := s₂.slotsUsed } : State).setVm s₂.vm).setTop g).pushFrame (.throwing q))
    rw [← hs₂]
    exact hsteps
end
variable {p : Program} {l : Launch} {e : Env} {R : Room} {s : State} {m : MethodId} {args : Array Value} {below : List Frame} {meth : Method} {c : Code} {T : State} {H : Heap} {locs : List Loc} {cells slots : Nat}
theorem vx_callVX (X : Stand p l e R s m args below meth c T locs cells slots) (hexec : p.tables.exec = Jvm.exec) {own C : String} {index : Nat} {y : MethodName} {bytes : ByteArray} {maxL : Nat} {ret : Option FieldType} {hh : List (Nat × Nat × Nat × Nat)}
    (hown : s.vm.findClass own = some m.cls) (hlink : (Cond.methodLink own index y).before args s = true) (hinst : (Cond.instanceMethod y).before args s = true) (hsel : (Cond.selects C y y).before args s = true)
    (hcode : (Cond.codeWith y bytes maxL ret hh).before args s = true) (hy : y.cls ≠ "java/lang/invoke/MethodHandle" ∧ y.cls ≠ "java/lang/invoke/VarHandle")
    {W9 : Nat} {Pre : Pt → Array Value → Prop} {Post : Pt → Array Value → Option Value → Pt → Prop} {PostX : Pt → Array Value → Addr → Pt → Prop} (hK : vx_Back l R p e below s args y 3 W9 Pre Post PostX)
    {b : Addr} {cellB : Cell} (hcell : T.heap[b]? = some cellB) (hobj : cellB.vm.isStatics = false) (hcls : s.vm.findClass C = some cellB.cls)
    {g : JFrame} (hg : g.method = m) (hsize : g.locals.size = c.maxLocals) {argsL rest : List Value} (hlen : ∀ sig, parseMethodDescriptor y.desc = some sig → argsL.length = sig.parameters.length)
    (hstack : g.stack = argsL.reverse ++ .ref b :: rest) (hW : 2 * g.monitorRoom + (rest.map fun v => v.category).sum ≤ W9) (hdg : decode c.code g.pc = .ok (.invokevirtual index, 3))
    (hpre : ∀ vm₁, s.WarmedH vm₁ → Pre ⟨T.setVm vm₁, locs, cells, slots⟩ (Value.ref b :: argsL).toArray) :
    (∃ (v : Option Value) (vm₁ : Vm) (B : Pt), s.WarmedH vm₁ ∧ Stand p l e R s m args below meth c B.U B.locs B.cells B.slots ∧ Post ⟨T.setVm vm₁, locs, cells, slots⟩ (Value.ref b :: argsL).toArray v B ∧
      ∀ target, Steps p.tables e below (B.U.setTop { g with pc := g.pc + 3, stack := v.toList ++ rest }) target → Steps p.tables e below (T.setTop g) target) ∨
    (∃ (q : Addr) (vm₁ : Vm) (B : Pt), s.WarmedH vm₁ ∧ Stand p l e R s m args below meth c B.U B.locs B.cells B.slots ∧ PostX ⟨T.setVm vm₁, locs, cells, slots⟩ (Value.ref b :: argsL).toArray q B ∧
      Steps p.tables e below (T.setTop g) ((B.U.setTop { g with stack := rest }).pushFrame (.throwing q))) := by
  obtain ⟨mk, methM, hnamed, hmethM, hstM, habM⟩ := Cond.instanceMethod_spec hinst
  obtain ⟨m8, methM', cM, hn8, hmethM', -, -, -, -, -, -, hsigM⟩ := Cond.codeWith_spec hcode
  cases Option.some.inj (hn8.symm.trans hnamed)
  cases hmethM.symm.trans hmethM'
  obtain ⟨c2, r2, m2, q1, q2, q3, q4, kP, hkP, hkPi⟩ := Cond.selects_spec hsel
  cases hcls.symm.trans q1
  cases (State.methodFound?_of_named hnamed hy).symm.trans q2
  cases hnamed.symm.trans q3
  have hselP : selectMethod e.platform s.vm cellB.cls mk = .method mk := by rw [Launch.admits_selectMethod X.admits]; exact q4
  obtain ⟨vm₁, X₁, hstep₁⟩ := X.invokevirtual hexec hown hlink hnamed hmethM hstM hkP hkPi hy (a := b) (cell := cellB) hcell
    (fun z h => by rw [h] at hobj; cases hobj) hselP hmethM habM hkP hkPi (g := g) hg (argsL := argsL) (rest := rest) (hlen _ hsigM) hstack hdg
  rcases hK m meth c ⟨T.setVm vm₁, locs, cells, slots⟩ { g with stack := rest } (.invokevirtual index) mk (Value.ref b :: argsL).toArray X₁ hg hsize hdg hW (X₁.named hnamed) (hpre vm₁ X₁.warmed) with ⟨v, B, X', hpost, hsteps⟩ | ⟨q, B, X', hpost, hsteps⟩
  · exact Or.inl ⟨v, vm₁, B, X₁.warmed, X', hpost, fun target h => hstep₁ _ fun acts => by rw [doInvoke_state]; exact hsteps.trans h⟩
  · exact Or.inr ⟨q, vm₁, B, X₁.warmed, X', hpost, hstep₁ _ fun acts => by rw [doInvoke_state]; exact hsteps⟩
theorem vx_callSX (X : Stand p l e R s m args below meth c T locs cells slots) (hexec : p.tables.exec = Jvm.exec) {own : String} {index : Nat} {y : MethodName} {bytes : ByteArray} {maxL : Nat} {ret : Option FieldType} {hh : List (Nat × Nat × Nat × Nat)}
    (hown : s.vm.findClass own = some m.cls) (hlink : (Cond.methodLink own index y).before args s = true) (hstat : (Cond.static y).before args s = true) (hinit : (Cond.initialized y.cls).before args s = true)
    (hcode : (Cond.codeWith y bytes maxL ret hh).before args s = true) (hy : y.cls ≠ "java/lang/invoke/MethodHandle" ∧ y.cls ≠ "java/lang/invoke/VarHandle")
    {W9 : Nat} {Pre : Pt → Array Value → Prop} {Post : Pt → Array Value → Option Value → Pt → Prop} {PostX : Pt → Array Value → Addr → Pt → Prop} (hK : vx_Back l R p e below s args y 3 W9 Pre Post PostX)
    {g : JFrame} (hg : g.method = m) (hsize : g.locals.size = c.maxLocals) {argsL rest : List Value} (hlen : ∀ sig, parseMethodDescriptor y.desc = some sig → argsL.length = sig.parameters.length)
    (hstack : g.stack = argsL.reverse ++ rest) (hW : 2 * g.monitorRoom + (rest.map fun v => v.category).sum ≤ W9) (hdg : decode c.code g.pc = .ok (.invokestatic index, 3))
    (hpre : ∀ vm₁, s.WarmedH vm₁ → Pre ⟨T.setVm vm₁, locs, cells, slots⟩ argsL.toArray) :
    (∃ (v : Option Value) (vm₁ : Vm) (B : Pt), s.WarmedH vm₁ ∧ Stand p l e R s m args below meth c B.U B.locs B.cells B.slots ∧ Post ⟨T.setVm vm₁, locs, cells, slots⟩ argsL.toArray v B ∧
      ∀ target, Steps p.tables e below (B.U.setTop { g with pc := g.pc + 3, stack := v.toList ++ rest }) target → Steps p.tables e below (T.setTop g) target) ∨
    (∃ (q : Addr) (vm₁ : Vm) (B : Pt), s.WarmedH vm₁ ∧ Stand p l e R s m args below meth c B.U B.locs B.cells B.slots ∧ PostX ⟨T.setVm vm₁, locs, cells, slots⟩ argsL.toArray q B ∧
      Steps p.tables e below (T.setTop g) ((B.U.setTop { g with stack := rest }).pushFrame (.throwing q))) := by
  obtain ⟨mk, methM, cM, hnamed, hmethM, -, -, -, -, -, -, hsigM⟩ := Cond.codeWith_spec hcode
  have hstatic : methM.isStatic = true := Cond.static_spec hnamed hmethM hstat
  obtain ⟨kP, hkP, -⟩ := className_of_methodNamed hnamed
  have hinitP : kP.init = .initialized := Cond.initialized_spec (findClass_of_methodNamed hnamed) hkP hinit
  obtain ⟨vm₁, X₁, hstep₁⟩ := X.invokestatic hexec hown hlink hnamed hmethM hstatic hkP hinitP hy (g := g) hg (argsL := argsL) (rest := rest) (hlen _ hsigM) hstack hdg
  rcases hK m meth c ⟨T.setVm vm₁, locs, cells, slots⟩ { g with stack := rest } (.invokestatic index) mk argsL.toArray X₁ hg hsize hdg hW (X₁.named hnamed) (hpre vm₁ X₁.warmed) with ⟨v, B, X', hpost, hsteps⟩ | ⟨q, B, X', hpost, hsteps⟩
  · exact Or.inl ⟨v, vm₁, B, X₁.warmed, X', hpost, fun target h => hstep₁ _ fun acts => by rw [doInvoke_state]; exact hsteps.trans h⟩
  · exact Or.inr ⟨q, vm₁, B, X₁.warmed, X', hpost, hstep₁ _ fun acts => by rw [doInvoke_state]; exact hsteps⟩
theorem vx_callVW (X : Stand p l e R s m args below meth c T locs cells slots) (hexec : p.tables.exec = Jvm.exec) {own C : String} {index : Nat} {y : MethodName} {bytes : ByteArray} {maxL : Nat} {ret : Option FieldType} {hh : List (Nat × Nat × Nat × Nat)}
    (hown : s.vm.findClass own = some m.cls) (hlink : (Cond.methodLink own index y).before args s = true) (hinst : (Cond.instanceMethod y).before args s = true) (hsel : (Cond.selects C y y).before args s = true)
    (hcode : (Cond.codeWith y bytes maxL ret hh).before args s = true) (hy : y.cls ≠ "java/lang/invoke/MethodHandle" ∧ y.cls ≠ "java/lang/invoke/VarHandle")
    {W9 : Nat} {Pre : Pt → Array Value → Prop} {Post : Pt → Array Value → Option Value → Pt → Prop} (hK : Back l R p e below s args y 3 W9 Pre Post)
    {b : Addr} {cellB : Cell} (hcell : T.heap[b]? = some cellB) (hobj : cellB.vm.isStatics = false) (hcls : s.vm.findClass C = some cellB.cls)
    {g : JFrame} (hg : g.method = m) (hsize : g.locals.size = c.maxLocals) {argsL rest : List Value} (hlen : ∀ sig, parseMethodDescriptor y.desc = some sig → argsL.length = sig.parameters.length)
    (hstack : g.stack = argsL.reverse ++ .ref b :: rest) (hW : 2 * g.monitorRoom + (rest.map fun v => v.category).sum ≤ W9) (hdg : decode c.code g.pc = .ok (.invokevirtual index, 3))
    (hpre : ∀ vm₁, s.WarmedH vm₁ → Pre ⟨T.setVm vm₁, locs, cells, slots⟩ (Value.ref b :: argsL).toArray) :
    ∃ (v : Option Value) (vm₁ : Vm) (B : Pt), s.WarmedH vm₁ ∧ Stand p l e R s m args below meth c B.U B.locs B.cells B.slots ∧ Post ⟨T.setVm vm₁, locs, cells, slots⟩ (Value.ref b :: argsL).toArray v B ∧
      ∀ target, Steps p.tables e below (B.U.setTop { g with pc := g.pc + 3, stack := v.toList ++ rest }) target → Steps p.tables e below (T.setTop g) target := by
  obtain ⟨mk, methM, hnamed, hmethM, hstM, habM⟩ := Cond.instanceMethod_spec hinst
  obtain ⟨m8, methM', cM, hn8, hmethM', -, -, -, -, -, -, hsigM⟩ := Cond.codeWith_spec hcode
  cases Option.some.inj (hn8.symm.trans hnamed)
  cases hmethM.symm.trans hmethM'
  obtain ⟨c2, r2, m2, q1, q2, q3, q4, kP, hkP, hkPi⟩ := Cond.selects_spec hsel
  cases hcls.symm.trans q1
  cases (State.methodFound?_of_named hnamed hy).symm.trans q2
  cases hnamed.symm.trans q3
  have hselP : selectMethod e.platform s.vm cellB.cls mk = .method mk := by rw [Launch.admits_selectMethod X.admits]; exact q4
  obtain ⟨vm₁, X₁, hstep₁⟩ := X.invokevirtual hexec hown hlink hnamed hmethM hstM hkP hkPi hy (a := b) (cell := cellB) hcell
    (fun z h => by rw [h] at hobj; cases hobj) hselP hmethM habM hkP hkPi (g := g) hg (argsL := argsL) (rest := rest) (hlen _ hsigM) hstack hdg
  obtain ⟨v, B, X', hpost, hsteps⟩ := hK m meth c ⟨T.setVm vm₁, locs, cells, slots⟩ { g with stack := rest } (.invokevirtual index) mk (Value.ref b :: argsL).toArray X₁ hg hsize hdg hW (X₁.named hnamed) (hpre vm₁ X₁.warmed)
  exact ⟨v, vm₁, B, X₁.warmed, X', hpost, fun target h => hstep₁ _ fun acts => by rw [doInvoke_state]; exact hsteps.trans h⟩
abbrev vx_CVW (R : Room) (s : State) (args : Array Value) (own C : String) (index : Nat) (y : MethodName) (bytes : ByteArray) (maxL : Nat) (ret : Option FieldType) (hh : List (Nat × Nat × Nat × Nat)) (ws : List Cond) (rm : Room) (mc ms n : Nat) : Prop :=
  (rm.cells = mc ∧ rm.slots = ms ∧ rm.frames + 1 ≤ R.frames ∧ 8 + (maxL + 11) + rm.locals ≤ R.locals ∧ (∀ w ∈ ws, ∀ (a' : Array Value) (U : State), s.WarmedH U.vm → w.before a' U = true) ∧ Cond.codeWith y bytes maxL ret hh ∈ ws) ∧
  (Cond.codeWith y bytes maxL ret hh).before args s = true ∧ (Cond.initialized y.cls).before args s = true ∧ (y.cls ≠ "java/lang/invoke/MethodHandle" ∧ y.cls ≠ "java/lang/invoke/VarHandle") ∧
  (∀ sig, parseMethodDescriptor y.desc = some sig → n = sig.parameters.length) ∧ (Cond.methodLink own index y).before args s = true ∧ (Cond.instanceMethod y).before args s = true ∧ (Cond.selects C y y).before args s = true
theorem vx_cwVW {own C : String} {index maxL mc ms : Nat} {y : MethodName} {bytes : ByteArray} {ret : Option FieldType} {hh : List (Nat × Nat × Nat × Nat)} {Ts ws ws' : List Cond} {rm : Room} (n : Nat) (ht : ∀ w ∈ Ts, w.before args s = true) (hT : GoodIn Ts (wsV own index C y ws)) (hw : ws = Cond.codeWith y bytes maxL ret hh :: ws') (hrc : rm.cells = mc) (hrs : rm.slots = ms)
    (hd : y.cls = C ∧ y.cls ≠ "java/lang/invoke/MethodHandle" ∧ y.cls ≠ "java/lang/invoke/VarHandle" ∧ (parseMethodDescriptor y.desc).map (fun d => d.parameters.length) = some n) (hR : rm.frames + 1 ≤ R.frames ∧ 8 + (maxL + 11) + rm.locals ≤ R.locals) :
    vx_CVW R s args own C index y bytes maxL ret hh ws rm mc ms n := by
  obtain ⟨hC, hd⟩ := hd
  subst hC
  have ok : ∀ w ∈ wsV own index y.cls y ws, w.before args s = true := fun w h => ht w (hT w h).1
  have hG : GoodIn Ts ws := fun w h => hT w (by unfold wsV; exact List.mem_append_right _ h)
  have hc : Cond.codeWith y bytes maxL ret hh ∈ ws := by rw [hw]; exact List.mem_cons_self
  refine ⟨⟨hrc, hrs, hR.1, hR.2, pay_in ht hG, hc⟩, ht _ (hG _ hc).1, ok _ (by simp [wsV]), ⟨hd.1, hd.2.1⟩, fun sig h => ?_, ok _ (by simp [wsV]), ok _ (by simp [wsV]), ok _ (by simp [wsV])⟩
  have h2 := hd.2.2
  rw [h] at h2
  exact (Option.some.inj h2).symm
theorem vx_runVW {y : MethodName} {bytes cc : ByteArray} {maxL nL mc ms n index : Nat} {ret : Option FieldType} {hh : List (Nat × Nat × Nat × Nat)} {ws : List Cond} {rm : Room} {Pc : Array Value → State → Prop} {Qc : Array Value → State → Outcome → State → Prop} {free : Addr → Prop} {Ts : List Cond} {own C : String} {b : Addr} {As rest : List Value} {g : JFrame}
    (S : CallFix p m c cc nL s args Ts own) (hM : Met l y ws rm Pc Qc mc ms free) (cw : vx_CVW R s args own C index y bytes maxL ret hh ws rm mc ms n) (hp : PreV s H C b Pc As)
    (hg : g.method = m) (hn : As.length = n) (hsize : g.locals.size = nL) (hstack : g.stack = As.reverse ++ .ref b :: rest) (hW : 2 * g.monitorRoom + (rest.map fun v => v.category).sum ≤ 8) (hdg : decode cc g.pc = .ok (.invokevirtual index, 3)) (hf : cells + mc ≤ R.cells ∧ slots + ms ≤ R.slots) :
    va_Run p l e R s m args below meth c H locs cells slots mc ms g rest (Qc (Value.ref b :: As).toArray) free := by
  obtain ⟨⟨hrc, hrs, hfr, hlo, hws, hcw⟩, hcode, hini, hy, hlen, hl, hin, hse⟩ := cw
  have hK : Back l R p e below s args y 3 8 (PreOf R mc ms Pc) (PostOf Qc mc ms free) := va_backW (hh := hh) (bytes := bytes) (maxL := maxL) (ret := ret) hM hp.1 hrc hrs hfr hlo hws hcw (fun a' U hW => word_at hW (Or.inl (by first | rfl | simp [Cond.onTables, Cond.keeps, Cond.steady])) hini)
  obtain ⟨hx, hb, hml, ho, -⟩ := S
  obtain ⟨-, ⟨cellB, hcB, hoB, hclB⟩, hPc⟩ := hp
  intro T hT X
  obtain ⟨v, vm₁, ⟨U', l2, c2, s2⟩, hW₁, X', ⟨g', mk, t, L, e1, e2, hq, h1, hL, h2, h3⟩, st⟩ := vx_callVW X hx (C := C) (hh := hh) (bytes := bytes) (maxL := maxL) (ret := ret) ho hl hin hse hcode hy hK (by rw [hT]; exact hcB) hoB hclB hg (hsize.trans hml.symm) (argsL := As) (rest := rest) (fun sig h => hn.trans (hlen sig h)) hstack hW (by rw [hb]; exact hdg)
    (fun vm₁ hW₁ => ⟨hf.1, hf.2, hPc (T.setVm vm₁) hT hW₁⟩)
  dsimp only [Pt.U, Pt.locs, Pt.cells, Pt.slots] at X' e1 e2 h1 h2 h3 st
  subst h1; subst h2; subst h3
  exact ⟨v, (T.setVm vm₁).calling g' mk (Value.ref b :: As).toArray, t, U', L, hT, X', hL, e1, e2, hq, st⟩
section
variable {y : MethodName} {bytes cc : ByteArray} {maxL nL mc ms n index : Nat} {ret : Option FieldType} {ws : List Cond} {rm : Room} {Pc : Array Value → State → Prop} {Qc : Array Value → State → Outcome → State → Prop} {XC : String → State → State → Prop} {free : Addr → Prop} {Ts : List Cond} {own C : String} {b : Addr} {As rest : List Value} {g : JFrame}
theorem vx_runVX {hh : List (Nat × Nat × Nat × Nat)} (S : CallFix p m c cc nL s args Ts own) (hM : vx_Met l y ws rm Pc Qc XC mc ms free) (cw : vx_CVW R s args own C index y bytes maxL ret hh ws rm mc ms n) (hp : PreV s H C b Pc As)
    (hg : g.method = m) (hn : As.length = n) (hsize : g.locals.size = nL) (hstack : g.stack = As.reverse ++ .ref b :: rest) (hW : 2 * g.monitorRoom + (rest.map fun v => v.category).sum ≤ 8) (hdg : decode cc g.pc = .ok (.invokevirtual index, 3)) (hf : cells + mc ≤ R.cells ∧ slots + ms ≤ R.slots) :
    vx_Run p l e R s m args below meth c H locs cells slots mc ms g rest (Qc (Value.ref b :: As).toArray) XC free := by
  obtain ⟨⟨hrc, hrs, hfr, hlo, hws, hcw⟩, hcode, hini, hy, hlen, hl, hin, hse⟩ := cw
  have hK : vx_Back l R p e below s args y 3 8 (PreOf R mc ms Pc) (PostOf Qc mc ms free) (vx_Post XC mc ms free) := vx_backW (hh := hh) (bytes := bytes) (maxL := maxL) (ret := ret) hM hp.1 hrc hrs hfr hlo hws hcw (fun a' U hW => word_at hW (Or.inl (by first | rfl | simp [Cond.onTables, Cond.keeps, Cond.steady])) hini)
  obtain ⟨hx, hb, hml, ho, -⟩ := S
  obtain ⟨-, ⟨cellB, hcB, hoB, hclB⟩, hPc⟩ := hp
  intro T hT X
  rcases vx_callVX X hx (C := C) (hh := hh) (bytes := bytes) (maxL := maxL) (ret := ret) ho hl hin hse hcode hy hK (by rw [hT]; exact hcB) hoB hclB hg (hsize.trans hml.symm) (argsL := As) (rest := rest) (fun sig h => hn.trans (hlen sig h)) hstack hW (by rw [hb]; exact hdg)
    (fun vm₁ hW₁ => ⟨hf.1, hf.2, hPc (T.setVm vm₁) hT hW₁⟩) with ⟨v, vm₁, ⟨U', l2, c2, s2⟩, hW₁, X', ⟨g', mk, t, L, e1, e2, hq, h1, hL, h2, h3⟩, st⟩ | ⟨q, vm₁, ⟨U', l2, c2, s2⟩, hW₁, X', ⟨g', mk, t, L, E, ce, e1, e2, hq, hce, hcv, hcl, h1, hL, h2, h3⟩, st⟩
  · dsimp only [Pt.U, Pt.locs, Pt.cells, Pt.slots] at X' e1 e2 h1 h2 h3 st
    subst h1; subst h2; subst h3
    exact Or.inl ⟨v, (T.setVm vm₁).calling g' mk (Value.ref b :: As).toArray, t, U', L, hT, X', hL, e1, e2, hq, st⟩
  · dsimp only [Pt.U, Pt.locs, Pt.cells, Pt.slots] at X' e1 e2 h1 h2 h3 st hcl
    subst h1; subst h2; subst h3
    exact Or.inr ⟨q, (T.setVm vm₁).calling g' mk (Value.ref b :: As).toArray, t, U', L, E, ce, hT, X', hL, e1, e2, hq, hce, hcv, vx_cls hW₁ hcl, st⟩
theorem vx_runSX {hh : List (Nat × Nat × Nat × Nat)} (S : CallFix p m c cc nL s args Ts own) (hM : vx_Met l y ws rm Pc Qc XC mc ms free) (cw : vx_CSW R s args own index y bytes maxL ret hh ws rm mc ms n) (hp : PreS s H Pc As)
    (hg : g.method = m) (hn : As.length = n) (hsize : g.locals.size = nL) (hstack : g.stack = As.reverse ++ rest) (hW : 2 * g.monitorRoom + (rest.map fun v => v.category).sum ≤ 8) (hdg : decode cc g.pc = .ok (.invokestatic index, 3)) (hf : cells + mc ≤ R.cells ∧ slots + ms ≤ R.slots) :
    vx_Run p l e R s m args below meth c H locs cells slots mc ms g rest (Qc As.toArray) XC free := by
  obtain ⟨⟨hrc, hrs, hfr, hlo, hws, hcw⟩, hcode, hini, hy, hlen, hl, hstt⟩ := cw
  have hK : vx_Back l R p e below s args y 3 8 (PreOf R mc ms Pc) (PostOf Qc mc ms free) (vx_Post XC mc ms free) := vx_backW (hh := hh) (bytes := bytes) (maxL := maxL) (ret := ret) hM hp.1 hrc hrs hfr hlo hws hcw (fun a' U hW => word_at hW (Or.inl (by first | rfl | simp [Cond.onTables, Cond.keeps, Cond.steady])) hini)
  obtain ⟨hx, hb, hml, ho, -⟩ := S
  intro T hT X
  rcases vx_callSX X hx (hh := hh) (bytes := bytes) (maxL := maxL) (ret := ret) ho hl hstt hini hcode hy hK hg (hsize.trans hml.symm) (argsL := As) (rest := rest) (fun sig h => hn.trans (hlen sig h)) hstack hW (by rw [hb]; exact hdg)
    (fun vm₁ hW₁ => ⟨hf.1, hf.2, hp.2 (T.setVm vm₁) hT hW₁⟩) with ⟨v, vm₁, ⟨U', l2, c2, s2⟩, hW₁, X', ⟨g', mk, t, L, e1, e2, hq, h1, hL, h2, h3⟩, st⟩ | ⟨q, vm₁, ⟨U', l2, c2, s2⟩, hW₁, X', ⟨g', mk, t, L, E, ce, e1, e2, hq, hce, hcv, hcl, h1, hL, h2, h3⟩, st⟩
  · dsimp only [Pt.U, Pt.locs, Pt.cells, Pt.slots] at X' e1 e2 h1 h2 h3 st
    subst h1; subst h2; subst h3
    exact Or.inl ⟨v, (T.setVm vm₁).calling g' mk As.toArray, t, U', L, hT, X', hL, e1, e2, hq, st⟩
  · dsimp only [Pt.U, Pt.locs, Pt.cells, Pt.slots] at X' e1 e2 h1 h2 h3 st hcl
    subst h1; subst h2; subst h3
    exact Or.inr ⟨q, (T.setVm vm₁).calling g' mk As.toArray, t, U', L, E, ce, hT, X', hL, e1, e2, hq, hce, hcv, vx_cls hW₁ hcl, st⟩
end
end VXH
theorem vx_ofWH {l : Launch} {y : MethodName} {ws ws' : List Cond} {rm : Room} {Pc : Array Value → State → Prop} {Qc : Array Value → State → Outcome → State → Prop} {XC : String → State → State → Prop} {mc ms : Nat} {free : Addr → Prop} {cc : ByteArray} {maxL : Nat} {ret : Option FieldType} {hh : List (Nat × Nat × Nat × Nat)}
    (hy : plainName y.cls = true) (hw : ws = Cond.codeWith y cc maxL ret hh :: ws')
    (body : ∀ p e s m args below meth c s₁, BodyLoose p l y (headSpec ws rm) cc maxL ret e s m args below meth c s₁ → c.maxLocals = maxL → Pc args s →
      W p l e (headSpec ws rm).room s m args below meth c s.heap [] 0 0 (vx_MQ below Qc XC args s mc ms free) (entryFrame m args maxL)) : vx_Met l y ws rm Pc Qc XC mc ms free := by
  refine MetFree.of_bodyS (code := cc) (maxLocals := maxL) (ret := ret) hy ?_ ?_
  · intro args s m h hn
    obtain ⟨m9, meth, c, hn9, h1, h2, h3, h4, -, h5, h6, -⟩ := Cond.codeWith_spec (atoms_spec (ws := ws) h _ (by rw [hw]; exact List.mem_cons_self))
    cases hn.symm.trans hn9
    exact ⟨meth, c, h1, h2, h3, h4, h5, h6⟩
  · intro p e s m args below meth c s₁ B hml hP _
    have hh0 : s₁.heap = s.heap := by rw [B.state]; rfl
    obtain ⟨t, a1, o, b1, b2, b3⟩ := body p e s m args below meth c s₁ B hml hP s₁ hh0 (Stand.of_body B)
    exact ⟨t, o, a1, b1, b2, b3⟩
/-! ===== END ===== -/
end
section
/-! GF(256): bytes as BitVec 8, their product, inverse, polynomials, and the value at a place out of k values (Lagrange) -/
def gf_x (a : BitVec 8) : BitVec 8 := (a <<< 1) ^^^ (if a.msb = true then 0x1b#8 else 0#8)
def gf_mA : Nat → BitVec 8 → BitVec 8 → BitVec 8
  | 0, _, _ => 0#8
  | n + 1, a, b => (if b.getLsbD 0 = true then a else 0#8) ^^^ gf_mA n (gf_x a) (b >>> 1)
def gf_m (a b : BitVec 8) : BitVec 8 := gf_mA 8 a b
theorem gf_ite (p q : Bool) (c : BitVec 8) : (if (p ^^ q) = true then c else 0#8) = (if p = true then c else 0#8) ^^^ (if q = true then c else 0#8) := by
  cases p <;> cases q <;> simp
theorem gf_x4 (a b c d : BitVec 8) : (a ^^^ b) ^^^ (c ^^^ d) = (a ^^^ c) ^^^ (b ^^^ d) := by
  rw [BitVec.xor_assoc, BitVec.xor_assoc, ← BitVec.xor_assoc b c d, BitVec.xor_comm b c, BitVec.xor_assoc c b d]
theorem gf_xc {a b : BitVec 8} (h : a ^^^ b = 0#8) : a = b := by
  have h1 : (a ^^^ b) ^^^ b = 0#8 ^^^ b := by rw [h]
  rw [BitVec.xor_assoc, BitVec.xor_self, BitVec.xor_zero, BitVec.zero_xor] at h1
  exact h1
theorem gf_x_add (a b : BitVec 8) : gf_x (a ^^^ b) = gf_x a ^^^ gf_x b := by
  unfold gf_x
  rw [BitVec.shiftLeft_xor_distrib, BitVec.msb_xor, gf_ite, gf_x4]
theorem gf_if2 (p : Prop) [Decidable p] (a b : BitVec 8) : (if p then a ^^^ b else 0#8) = (if p then a else 0#8) ^^^ (if p then b else 0#8) := by
  by_cases h : p
  · rw [if_pos h, if_pos h, if_pos h]
  · rw [if_neg h, if_neg h, if_neg h, BitVec.xor_zero]
theorem gf_mA_l (n : Nat) : ∀ a a' b : BitVec 8, gf_mA n (a ^^^ a') b = gf_mA n a b ^^^ gf_mA n a' b := by
  induction n with
  | zero => intro a a' b; exact (BitVec.xor_zero).symm
  | succ n ih =>
    intro a a' b
    show (if b.getLsbD 0 = true then a ^^^ a' else 0#8) ^^^ gf_mA n (gf_x (a ^^^ a')) (b >>> 1) = _
    rw [gf_x_add, ih, gf_if2, gf_x4]
    rfl
theorem gf_mA_r (n : Nat) : ∀ a b b' : BitVec 8, gf_mA n a (b ^^^ b') = gf_mA n a b ^^^ gf_mA n a b' := by
  induction n with
  | zero => intro a b b'; exact (BitVec.xor_zero).symm
  | succ n ih =>
    intro a b b'
    show (if (b ^^^ b').getLsbD 0 = true then a else 0#8) ^^^ gf_mA n (gf_x a) ((b ^^^ b') >>> 1) = _
    rw [BitVec.ushiftRight_xor_distrib, ih, BitVec.getLsbD_xor, gf_ite, gf_x4]
    rfl
theorem gf_l (a a' b : BitVec 8) : gf_m (a ^^^ a') b = gf_m a b ^^^ gf_m a' b := gf_mA_l 8 a a' b
theorem gf_r (a b b' : BitVec 8) : gf_m a (b ^^^ b') = gf_m a b ^^^ gf_m a b' := gf_mA_r 8 a b b'
def gf_e (i : Nat) (x : BitVec 8) : BitVec 8 := if x.getLsbD i = true then 1#8 <<< i else 0#8
def gf_E (x : BitVec 8) : BitVec 8 := gf_e 0 x ^^^ (gf_e 1 x ^^^ (gf_e 2 x ^^^ (gf_e 3 x ^^^ (gf_e 4 x ^^^ (gf_e 5 x ^^^ (gf_e 6 x ^^^ gf_e 7 x))))))
set_option maxRecDepth 100000 in
theorem gf_bits : ∀ x : BitVec 8, gf_E x = x := by decide +kernel
theorem gf_lin0 {f : BitVec 8 → BitVec 8} (hf : ∀ x y, f (x ^^^ y) = f x ^^^ f y) : f 0#8 = 0#8 := by
  have h := hf 0#8 0#8
  rw [BitVec.xor_self, BitVec.xor_self] at h
  exact h
theorem gf_lin {f g : BitVec 8 → BitVec 8} (hf : ∀ x y, f (x ^^^ y) = f x ^^^ f y) (hg : ∀ x y, g (x ^^^ y) = g x ^^^ g y) (h : ∀ i, i < 8 → f (1#8 <<< i) = g (1#8 <<< i)) (x : BitVec 8) : f x = g x := by
  have key : ∀ i, i < 8 → f (gf_e i x) = g (gf_e i x) := by
    intro i hi
    unfold gf_e
    by_cases hb : x.getLsbD i = true
    · rw [if_pos hb]; exact h i hi
    · rw [if_neg hb, gf_lin0 hf, gf_lin0 hg]
  have h1 : f (gf_E x) = g (gf_E x) := by
    unfold gf_E
    rw [hf, hf, hf, hf, hf, hf, hf, hg, hg, hg, hg, hg, hg, hg, key 0 (by omega), key 1 (by omega), key 2 (by omega), key 3 (by omega), key 4 (by omega), key 5 (by omega), key 6 (by omega), key 7 (by omega)]
  rw [gf_bits] at h1
  exact h1
set_option maxRecDepth 100000 in
theorem gf_comm0 : ∀ i, i < 8 → ∀ j, j < 8 → gf_m (1#8 <<< i) (1#8 <<< j) = gf_m (1#8 <<< j) (1#8 <<< i) := by decide +kernel
theorem gf_comm (a b : BitVec 8) : gf_m a b = gf_m b a :=
  gf_lin (f := fun a => gf_m a b) (g := fun a => gf_m b a) (fun x y => gf_l x y b) (fun x y => gf_r b x y)
    (fun i hi => gf_lin (f := fun b => gf_m (1#8 <<< i) b) (g := fun b => gf_m b (1#8 <<< i)) (fun x y => gf_r _ x y) (fun x y => gf_l x y _) (fun j hj => gf_comm0 i hi j hj) b) a
set_option maxRecDepth 100000 in
theorem gf_assoc0 : ∀ i, i < 8 → ∀ j, j < 8 → ∀ k, k < 8 → gf_m (gf_m (1#8 <<< i) (1#8 <<< j)) (1#8 <<< k) = gf_m (1#8 <<< i) (gf_m (1#8 <<< j) (1#8 <<< k)) := by decide +kernel
theorem gf_assoc (a b c : BitVec 8) : gf_m (gf_m a b) c = gf_m a (gf_m b c) :=
  gf_lin (f := fun a => gf_m (gf_m a b) c) (g := fun a => gf_m a (gf_m b c)) (fun x y => by show gf_m (gf_m (x ^^^ y) b) c = _; rw [gf_l, gf_l]) (fun x y => gf_l x y _)
    (fun i hi => gf_lin (f := fun b => gf_m (gf_m (1#8 <<< i) b) c) (g := fun b => gf_m (1#8 <<< i) (gf_m b c)) (fun x y => by show gf_m (gf_m _ (x ^^^ y)) c = _; rw [gf_r, gf_l]) (fun x y => by show gf_m _ (gf_m (x ^^^ y) c) = _; rw [gf_l, gf_r])
      (fun j hj => gf_lin (f := fun c => gf_m (gf_m (1#8 <<< i) (1#8 <<< j)) c) (g := fun c => gf_m (1#8 <<< i) (gf_m (1#8 <<< j) c)) (fun x y => gf_r _ x y) (fun x y => by show gf_m _ (gf_m _ (x ^^^ y)) = _; rw [gf_r, gf_r]) (fun k hk => gf_assoc0 i hi j hj k hk) c) b) a
set_option maxRecDepth 100000 in
theorem gf_one : ∀ a : BitVec 8, gf_m 1#8 a = a := by decide +kernel
theorem gf_oneR (a : BitVec 8) : gf_m a 1#8 = a := by rw [gf_comm, gf_one]
theorem gf_0l (a : BitVec 8) : gf_m 0#8 a = 0#8 := gf_lin0 (f := fun x => gf_m x a) (fun x y => gf_l x y a)
theorem gf_0r (a : BitVec 8) : gf_m a 0#8 = 0#8 := gf_lin0 (f := fun x => gf_m a x) (fun x y => gf_r a x y)
def gf_iA : Nat → BitVec 8 → BitVec 8 → BitVec 8
  | 0, r, _ => r
  | n + 1, r, p => gf_iA n (gf_m r (gf_m p p)) (gf_m p p)
def gf_i (b : BitVec 8) : BitVec 8 := gf_iA 7 1#8 b
set_option maxRecDepth 100000 in
theorem gf_inv : ∀ b : BitVec 8, b ≠ 0#8 → gf_m b (gf_i b) = 1#8 := by decide +kernel
theorem gf_m4 (a b c d : BitVec 8) : gf_m (gf_m a b) (gf_m c d) = gf_m (gf_m a c) (gf_m b d) := by
  rw [gf_assoc, gf_assoc, ← gf_assoc b c d, gf_comm b c, gf_assoc c b d]
theorem gf_iA_m (n : Nat) : ∀ r r' p p' : BitVec 8, gf_iA n (gf_m r r') (gf_m p p') = gf_m (gf_iA n r p) (gf_iA n r' p') := by
  induction n with
  | zero => intro r r' p p'; rfl
  | succ n ih =>
    intro r r' p p'
    show gf_iA n (gf_m (gf_m r r') (gf_m (gf_m p p') (gf_m p p'))) (gf_m (gf_m p p') (gf_m p p')) = _
    rw [gf_m4 p p' p p', gf_m4 r r', ih]
    rfl
theorem gf_i_m (a b : BitVec 8) : gf_i (gf_m a b) = gf_m (gf_i a) (gf_i b) := by
  have h := gf_iA_m 7 1#8 1#8 a b
  rw [gf_one] at h
  exact h
theorem gf_i1 : gf_i 1#8 = 1#8 := by decide +kernel
theorem gf_nz {a b : BitVec 8} (ha : a ≠ 0#8) (h : gf_m a b = 0#8) : b = 0#8 := by
  have h1 : gf_m (gf_i a) (gf_m a b) = b := by rw [← gf_assoc, gf_comm (gf_i a) a, gf_inv a ha, gf_one]
  rw [h, gf_0r] at h1
  exact h1.symm
theorem gf_nz2 {a b : BitVec 8} (ha : a ≠ 0#8) (hb : b ≠ 0#8) : gf_m a b ≠ 0#8 := fun h => hb (gf_nz ha h)
/-- the quotient is the one c with c b = a -/
theorem gf_quo {a b c : BitVec 8} (hb : b ≠ 0#8) : gf_m c b = a ↔ c = gf_m a (gf_i b) := by
  constructor
  · intro h
    rw [← h, gf_assoc, gf_inv b hb, gf_oneR]
  · intro h
    rw [h, gf_assoc, gf_comm (gf_i b) b, gf_inv b hb, gf_oneR]
-- polynomials: coefficients co 0 .. co (k - 1)
def gf_p (x : BitVec 8) : Nat → BitVec 8
  | 0 => 1#8
  | n + 1 => gf_m (gf_p x n) x
def gf_s (co : Nat → BitVec 8) (x : BitVec 8) : Nat → BitVec 8
  | 0 => 0#8
  | n + 1 => gf_s co x n ^^^ gf_m (co n) (gf_p x n)
/-- Horner from power n - 1 down, begun with v -/
def gf_h (co : Nat → BitVec 8) (x : BitVec 8) : Nat → BitVec 8 → BitVec 8
  | 0, v => v
  | n + 1, v => gf_h co x n (gf_m v x ^^^ co n)
theorem gf_h_eq (co : Nat → BitVec 8) (x : BitVec 8) (n : Nat) : ∀ v, gf_h co x n v = gf_m v (gf_p x n) ^^^ gf_s co x n := by
  induction n with
  | zero => intro v; show v = gf_m v 1#8 ^^^ 0#8; rw [gf_oneR, BitVec.xor_zero]
  | succ n ih =>
    intro v
    show gf_h co x n (gf_m v x ^^^ co n) = gf_m v (gf_m (gf_p x n) x) ^^^ (gf_s co x n ^^^ gf_m (co n) (gf_p x n))
    rw [ih, gf_l, gf_assoc, gf_comm x, BitVec.xor_assoc, BitVec.xor_comm (gf_s co x n)]
theorem gf_h0 (co : Nat → BitVec 8) (x : BitVec 8) (n : Nat) : gf_h co x n 0#8 = gf_s co x n := by
  rw [gf_h_eq, gf_0l, BitVec.zero_xor]
theorem gf_s_congr {co co' : Nat → BitVec 8} {x : BitVec 8} {n : Nat} (h : ∀ j, j < n → co j = co' j) : gf_s co x n = gf_s co' x n := by
  induction n with
  | zero => rfl
  | succ n ih =>
    show gf_s co x n ^^^ gf_m (co n) (gf_p x n) = gf_s co' x n ^^^ gf_m (co' n) (gf_p x n)
    rw [ih (fun j hj => h j (by omega)), h n (by omega)]
theorem gf_s_add (co co' : Nat → BitVec 8) (x : BitVec 8) (n : Nat) : gf_s (fun j => co j ^^^ co' j) x n = gf_s co x n ^^^ gf_s co' x n := by
  induction n with
  | zero => exact (BitVec.xor_zero).symm
  | succ n ih =>
    show gf_s (fun j => co j ^^^ co' j) x n ^^^ gf_m (co n ^^^ co' n) (gf_p x n) = _
    rw [ih, gf_l, gf_x4]
    rfl
theorem gf_s_mul (c : BitVec 8) (co : Nat → BitVec 8) (x : BitVec 8) (n : Nat) : gf_s (fun j => gf_m c (co j)) x n = gf_m c (gf_s co x n) := by
  induction n with
  | zero => exact (gf_0r c).symm
  | succ n ih =>
    show gf_s (fun j => gf_m c (co j)) x n ^^^ gf_m (gf_m c (co n)) (gf_p x n) = gf_m c (gf_s co x n ^^^ gf_m (co n) (gf_p x n))
    rw [ih, gf_r, gf_assoc]
theorem gf_s_0 (x : BitVec 8) (n : Nat) : gf_s (fun _ => 0#8) x n = 0#8 := by
  induction n with
  | zero => rfl
  | succ n ih =>
    show gf_s (fun _ => 0#8) x n ^^^ gf_m 0#8 (gf_p x n) = 0#8
    rw [ih, gf_0l, BitVec.xor_zero]
/-- the lowest power apart -/
theorem gf_s_low (co : Nat → BitVec 8) (x : BitVec 8) (n : Nat) : gf_s co x (n + 1) = co 0 ^^^ gf_m (gf_s (fun j => co (j + 1)) x n) x := by
  induction n with
  | zero =>
    show 0#8 ^^^ gf_m (co 0) 1#8 = co 0 ^^^ gf_m 0#8 x
    rw [gf_oneR, gf_0l, BitVec.xor_zero, BitVec.zero_xor]
  | succ n ih =>
    show gf_s co x (n + 1) ^^^ gf_m (co (n + 1)) (gf_m (gf_p x n) x) = co 0 ^^^ gf_m (gf_s (fun j => co (j + 1)) x n ^^^ gf_m (co (n + 1)) (gf_p x n)) x
    rw [ih, gf_l, gf_assoc, BitVec.xor_assoc]
theorem gf_s_at0 (co : Nat → BitVec 8) (n : Nat) : gf_s co 0#8 (n + 1) = co 0 := by
  rw [gf_s_low, gf_0r, BitVec.xor_zero]
/-- by y - r -/
theorem gf_div (r : BitVec 8) (n : Nat) : ∀ co : Nat → BitVec 8, ∃ q : Nat → BitVec 8, ∀ y, gf_s co y (n + 1) = gf_m (y ^^^ r) (gf_s q y n) ^^^ gf_s co r (n + 1) := by
  induction n with
  | zero =>
    intro co
    refine ⟨co, fun y => ?_⟩
    rw [gf_s_low, gf_s_low]
    show co 0 ^^^ gf_m 0#8 y = gf_m (y ^^^ r) 0#8 ^^^ (co 0 ^^^ gf_m 0#8 r)
    rw [gf_0l, gf_0l, gf_0r, BitVec.zero_xor]
  | succ n ih =>
    intro co
    obtain ⟨q, hq⟩ := ih (fun j => co (j + 1))
    refine ⟨fun j => if j = 0 then gf_s (fun j => co (j + 1)) r (n + 1) else q (j - 1), fun y => ?_⟩
    rw [gf_s_low co y, hq y, gf_s_low co r, gf_s_low _ y n]
    show co 0 ^^^ gf_m (gf_m (y ^^^ r) (gf_s q y n) ^^^ gf_s (fun j => co (j + 1)) r (n + 1)) y = gf_m (y ^^^ r) (gf_s (fun j => co (j + 1)) r (n + 1) ^^^ gf_m (gf_s q y n) y) ^^^ (co 0 ^^^ gf_m (gf_s (fun j => co (j + 1)) r (n + 1)) r)
    generalize gf_s (fun j => co (j + 1)) r (n + 1) = A
    generalize gf_s q y n = B
    rw [gf_l _ A y, gf_assoc, gf_r (y ^^^ r) A, gf_l y r A, gf_comm A y, gf_comm A r]
    generalize gf_m (y ^^^ r) (gf_m B y) = C
    generalize gf_m y A = D
    generalize gf_m r A = F
    generalize co 0 = G
    rw [BitVec.xor_comm G (C ^^^ D), BitVec.xor_comm (D ^^^ F) C, BitVec.xor_assoc C D G, BitVec.xor_assoc C (D ^^^ F) (G ^^^ F), BitVec.xor_comm G F, BitVec.xor_assoc D F (F ^^^ G), ← BitVec.xor_assoc F F G, BitVec.xor_self, BitVec.zero_xor]
/-- n coefficients, n roots: nothing else -/
theorem gf_roots (n : Nat) : ∀ (co x : Nat → BitVec 8), (∀ i j, i < n → j < n → x i = x j → i = j) → (∀ i, i < n → gf_s co (x i) n = 0#8) → ∀ y, gf_s co y n = 0#8 := by
  induction n with
  | zero => intro co x _ _ y; rfl
  | succ n ih =>
    intro co x hd h0 y
    obtain ⟨q, hq⟩ := gf_div (x n) n co
    have h1 := ih q x (fun i j hi hj => hd i j (by omega) (by omega)) (fun i hi => by
      have h2 := hq (x i)
      rw [h0 i (by omega), h0 n (by omega), BitVec.xor_zero] at h2
      refine gf_nz (fun h3 => ?_) h2.symm
      have := hd i n (by omega) (by omega) (gf_xc h3)
      omega) y
    rw [hq y, h1, h0 n (by omega), gf_0r, BitVec.xor_zero]
def gf_is (k : Nat) (f : BitVec 8 → BitVec 8) : Prop := ∃ co : Nat → BitVec 8, ∀ y, f y = gf_s co y k
theorem gf_is_0 (k : Nat) : gf_is k (fun _ => 0#8) := ⟨fun _ => 0#8, fun y => (gf_s_0 y k).symm⟩
theorem gf_is_add {k : Nat} {f g : BitVec 8 → BitVec 8} (hf : gf_is k f) (hg : gf_is k g) : gf_is k (fun y => f y ^^^ g y) := by
  obtain ⟨a, ha⟩ := hf
  obtain ⟨b, hb⟩ := hg
  exact ⟨fun j => a j ^^^ b j, fun y => by rw [gf_s_add, ← ha, ← hb]⟩
theorem gf_is_mul {k : Nat} {f : BitVec 8 → BitVec 8} (c : BitVec 8) (hf : gf_is k f) : gf_is k (fun y => gf_m c (f y)) := by
  obtain ⟨a, ha⟩ := hf
  exact ⟨fun j => gf_m c (a j), fun y => by rw [gf_s_mul, ← ha]⟩
theorem gf_is_up {k : Nat} {f : BitVec 8 → BitVec 8} (hf : gf_is k f) : gf_is (k + 1) f := by
  obtain ⟨a, ha⟩ := hf
  refine ⟨fun j => if j < k then a j else 0#8, fun y => ?_⟩
  show f y = gf_s (fun j => if j < k then a j else 0#8) y k ^^^ gf_m (if k < k then a k else 0#8) (gf_p y k)
  rw [if_neg (Nat.lt_irrefl k), gf_0l, BitVec.xor_zero, ha, gf_s_congr (fun j hj => (if_pos hj).symm)]
theorem gf_is_x {k : Nat} {f : BitVec 8 → BitVec 8} (hf : gf_is k f) : gf_is (k + 1) (fun y => gf_m (f y) y) := by
  obtain ⟨a, ha⟩ := hf
  refine ⟨fun j => if j = 0 then 0#8 else a (j - 1), fun y => ?_⟩
  rw [gf_s_low]
  show gf_m (f y) y = 0#8 ^^^ gf_m (gf_s a y k) y
  rw [BitVec.zero_xor, ha]
theorem gf_is_lin {k : Nat} {f : BitVec 8 → BitVec 8} (r : BitVec 8) (hf : gf_is k f) : gf_is (k + 1) (fun y => gf_m (f y) (y ^^^ r)) := by
  obtain ⟨co, h⟩ := gf_is_add (gf_is_x hf) (gf_is_up (gf_is_mul r hf))
  exact ⟨co, fun y => by show gf_m (f y) (y ^^^ r) = _; rw [gf_r, gf_comm (f y) r]; exact h y⟩
theorem gf_is_1 : gf_is 1 (fun _ => 1#8) := ⟨fun _ => 1#8, fun y => by rw [gf_s_low]; show 1#8 = 1#8 ^^^ gf_m 0#8 y; rw [gf_0l, BitVec.xor_zero]⟩
/-- the product of y - x h over h < n, h other than g -/
def gf_N (x : Nat → BitVec 8) (g : Nat) (y : BitVec 8) : Nat → BitVec 8
  | 0 => 1#8
  | n + 1 => if n = g then gf_N x g y n else gf_m (gf_N x g y n) (y ^^^ x n)
theorem gf_N_is (x : Nat → BitVec 8) (g n : Nat) : (n ≤ g → gf_is (n + 1) (fun y => gf_N x g y n)) ∧ (g < n → gf_is n (fun y => gf_N x g y n)) := by
  induction n with
  | zero => exact ⟨fun _ => gf_is_1, fun h => absurd h (Nat.not_lt_zero g)⟩
  | succ n ih =>
    have hne : n ≠ g → (fun y => gf_N x g y (n + 1)) = (fun y => gf_m (gf_N x g y n) (y ^^^ x n)) := fun h => funext fun y => if_neg h
    have heq : n = g → (fun y => gf_N x g y (n + 1)) = (fun y => gf_N x g y n) := fun h => funext fun y => if_pos h
    constructor
    · intro h
      rw [hne (by omega)]
      exact gf_is_lin _ (ih.1 (by omega))
    · intro h
      by_cases hg : n = g
      · rw [heq hg]
        exact ih.1 (by omega)
      · rw [hne hg]
        exact gf_is_lin _ (ih.2 (by omega))
theorem gf_N_0 (x : Nat → BitVec 8) {g i n : Nat} (hi : i < n) (hg : i ≠ g) : gf_N x g (x i) n = 0#8 := by
  induction n with
  | zero => exact absurd hi (Nat.not_lt_zero i)
  | succ n ih =>
    show (if n = g then gf_N x g (x i) n else gf_m (gf_N x g (x i) n) (x i ^^^ x n)) = 0#8
    by_cases hn : i = n
    · subst hn
      rw [if_neg hg, BitVec.xor_self, gf_0r]
    · rw [ih (by omega), gf_0l]
      split <;> rfl
theorem gf_N_n (x : Nat → BitVec 8) {g n k : Nat} (hd : ∀ i j, i < k → j < k → x i = x j → i = j) (hg : g < k) (hn : n ≤ k) : gf_N x g (x g) n ≠ 0#8 := by
  induction n with
  | zero => show 1#8 ≠ 0#8; decide
  | succ n ih =>
    show (if n = g then gf_N x g (x g) n else gf_m (gf_N x g (x g) n) (x g ^^^ x n)) ≠ 0#8
    by_cases h : n = g
    · rw [if_pos h]; exact ih (by omega)
    · rw [if_neg h]
      exact gf_nz2 (ih (by omega)) (fun h3 => h (hd n g (by omega) hg (gf_xc h3).symm))
/-- the weight of x g for the value at y -/
def gf_w (x : Nat → BitVec 8) (k : Nat) (y : BitVec 8) (g : Nat) : BitVec 8 := gf_m (gf_N x g y k) (gf_i (gf_N x g (x g) k))
def gf_L (P : Nat → BitVec 8) (w : Nat → BitVec 8) : Nat → BitVec 8
  | 0 => 0#8
  | n + 1 => gf_L P w n ^^^ gf_m (P n) (w n)
theorem gf_L_is (P x : Nat → BitVec 8) (k n : Nat) (hn : n ≤ k) : gf_is k (fun y => gf_L P (gf_w x k y) n) := by
  induction n with
  | zero => exact gf_is_0 k
  | succ n ih =>
    refine gf_is_add (ih (by omega)) (gf_is_mul (P n) ?_)
    obtain ⟨co, h⟩ := gf_is_mul (gf_i (gf_N x n (x n) k)) ((gf_N_is x n k).2 (by omega))
    exact ⟨co, fun y => by rw [← h y]; exact gf_comm _ _⟩
theorem gf_L_at (P x : Nat → BitVec 8) {k i : Nat} (hd : ∀ i j, i < k → j < k → x i = x j → i = j) (hi : i < k) (n : Nat) (hn : n ≤ k) : gf_L P (gf_w x k (x i)) n = if i < n then P i else 0#8 := by
  induction n with
  | zero => rfl
  | succ n ih =>
    show gf_L P (gf_w x k (x i)) n ^^^ gf_m (P n) (gf_w x k (x i) n) = _
    rw [ih (by omega)]
    by_cases h : i = n
    · subst h
      rw [if_neg (Nat.lt_irrefl i), if_pos (Nat.lt_succ_self i), BitVec.zero_xor]
      unfold gf_w
      rw [gf_inv _ (gf_N_n x hd hi (Nat.le_refl k)), gf_oneR]
    · unfold gf_w
      rw [gf_N_0 x hi h, gf_0l, gf_0r, BitVec.xor_zero]
      by_cases h2 : i < n
      · rw [if_pos h2, if_pos (by omega)]
      · rw [if_neg h2, if_neg (by omega)]
/-- k values give all -/
theorem gf_lagrange (co x : Nat → BitVec 8) {k : Nat} (hd : ∀ i j, i < k → j < k → x i = x j → i = j) (y : BitVec 8) : gf_L (fun g => gf_s co (x g) k) (gf_w x k y) k = gf_s co y k := by
  obtain ⟨c1, h1⟩ := gf_is_add (gf_L_is (fun g => gf_s co (x g) k) x k k (Nat.le_refl k)) (⟨co, fun _ => rfl⟩ : gf_is k (fun y => gf_s co y k))
  have h2 := gf_roots k c1 x hd (fun i hi => by
    rw [← h1 (x i)]
    show gf_L (fun g => gf_s co (x g) k) (gf_w x k (x i)) k ^^^ gf_s co (x i) k = 0#8
    rw [gf_L_at _ x hd hi k (Nat.le_refl k), if_pos hi, BitVec.xor_self]) y
  rw [← h1 y] at h2
  exact gf_xc h2
/-- factor by factor: the weight's way in the reference -/
def gf_R (x : Nat → BitVec 8) (y : BitVec 8) (g : Nat) (v : BitVec 8) : Nat → BitVec 8
  | 0 => v
  | n + 1 => if n = g then gf_R x y g v n else gf_m (gf_R x y g v n) (gf_m (y ^^^ x n) (gf_i (x g ^^^ x n)))
theorem gf_R_eq (x : Nat → BitVec 8) (y : BitVec 8) (g : Nat) (v : BitVec 8) (n : Nat) : gf_R x y g v n = gf_m v (gf_m (gf_N x g y n) (gf_i (gf_N x g (x g) n))) := by
  induction n with
  | zero => show v = gf_m v (gf_m 1#8 (gf_i 1#8)); rw [gf_i1, gf_one, gf_oneR]
  | succ n ih =>
    show (if n = g then gf_R x y g v n else gf_m (gf_R x y g v n) (gf_m (y ^^^ x n) (gf_i (x g ^^^ x n)))) = gf_m v (gf_m (if n = g then gf_N x g y n else gf_m (gf_N x g y n) (y ^^^ x n)) (gf_i (if n = g then gf_N x g (x g) n else gf_m (gf_N x g (x g) n) (x g ^^^ x n))))
    by_cases h : n = g
    · rw [if_pos h, if_pos h, if_pos h]; exact ih
    · rw [if_neg h, if_neg h, if_neg h, ih, gf_i_m, gf_m4 (gf_N x g y n) (y ^^^ x n), gf_assoc]
theorem gf_R_w (x : Nat → BitVec 8) (y : BitVec 8) (g k : Nat) (v : BitVec 8) : gf_R x y g v k = gf_m v (gf_w x k y g) := gf_R_eq x y g v k
end
section
/-! bytes as ints; what the two products' loops do, in bytes -/
def bI (a : BitVec 8) : Int32 := nI a.toNat
theorem bI_bv (a : BitVec 8) : (bI a).toBitVec = a.setWidth 32 := by
  show BitVec.ofNat 32 a.toNat = a.setWidth 32
  exact BitVec.ofNat_toNat 32 a
theorem bI_xor (a b : BitVec 8) : bI a ^^^ bI b = bI (a ^^^ b) := by
  apply Int32.toBitVec_inj.mp
  rw [Int32.toBitVec_xor, bI_bv, bI_bv, bI_bv, BitVec.setWidth_xor]
theorem bI_lt (a : BitVec 8) : a.toNat < 256 := a.isLt
theorem bI_inj {a b : BitVec 8} (h : bI a = bI b) : a = b := by
  have h1 := congrArg Int32.toInt h
  have ha := a.isLt
  have hb := b.isLt
  unfold bI at h1
  rw [nI_toInt (by omega), nI_toInt (by omega)] at h1
  exact BitVec.eq_of_toNat_eq (by omega)
theorem bI_0 : bI 0#8 = 0 := by decide +kernel
theorem bI_1 : bI 1#8 = 1 := by decide +kernel
set_option maxRecDepth 100000 in
theorem bI_bit : ∀ b : BitVec 8, ∀ j, j < 8 → (((((bI b).toUInt32 >>> ((nI j).toUInt32 &&& Int32.toUInt32 31)).toInt32 &&& 1) = 1) ↔ b.getLsbD j = true) := by decide +kernel
set_option maxRecDepth 100000 in
theorem bI_sbit : ∀ b : BitVec 8, ∀ j, j < 8 → ((((bI b) >>> (nI j &&& 31)) &&& 1) = 1 ↔ b.getLsbD j = true) := by decide +kernel
set_option maxRecDepth 100000 in
theorem bI_xt : ∀ t : BitVec 8, (if (bI t <<< ((1 : Int32) &&& 31)) < 256 then bI t <<< ((1 : Int32) &&& 31) else (bI t <<< ((1 : Int32) &&& 31)) ^^^ 283) = bI (gf_x t) := by decide +kernel
theorem bI_xt1 {t : BitVec 8} (h : (bI t <<< ((1 : Int32) &&& 31)) < 256) : bI t <<< ((1 : Int32) &&& 31) = bI (gf_x t) := by
  have h1 := bI_xt t
  rw [if_pos h] at h1
  exact h1
theorem bI_xt2 {t : BitVec 8} (h : ¬ (bI t <<< ((1 : Int32) &&& 31)) < 256) : (bI t <<< ((1 : Int32) &&& 31)) ^^^ 283 = bI (gf_x t) := by
  have h1 := bI_xt t
  rw [if_neg h] at h1
  exact h1
/-- what is left of a product behind j bits: the sum s, the shifted a, b's bits from j on -/
def gf_c (b : BitVec 8) (j : Nat) (s t : BitVec 8) : BitVec 8 := s ^^^ gf_mA (8 - j) t (b >>> j)
theorem gf_c0 (a b : BitVec 8) : gf_c b 0 0#8 a = gf_m a b := by
  show 0#8 ^^^ gf_mA 8 a (b >>> 0) = gf_m a b
  rw [BitVec.zero_xor, BitVec.ushiftRight_zero]
  rfl
theorem gf_c8 (b s t : BitVec 8) : gf_c b 8 s t = s := by
  show s ^^^ gf_mA 0 t (b >>> 8) = s
  exact BitVec.xor_zero
theorem gf_cS {b s t : BitVec 8} {j : Nat} (hj : j < 8) : gf_c b (j + 1) (if b.getLsbD j = true then s ^^^ t else s) (gf_x t) = gf_c b j s t := by
  unfold gf_c
  rw [show 8 - j = (8 - (j + 1)) + 1 by omega]
  show _ = s ^^^ ((if (b >>> j).getLsbD 0 = true then t else 0#8) ^^^ gf_mA (8 - (j + 1)) (gf_x t) ((b >>> j) >>> 1))
  rw [BitVec.getLsbD_ushiftRight, ← BitVec.shiftRight_add, ← BitVec.xor_assoc]
  congr 1
  by_cases h : b.getLsbD j = true
  · rw [if_pos h, if_pos (show b.getLsbD (j + 0) = true from h)]
  · rw [if_neg h, if_neg (show ¬ b.getLsbD (j + 0) = true from h), BitVec.xor_zero]
end
section
/-! names: methods (y_, b_), classes (R_, F_, t_), the worlds' classes (cls), all good words of the tables (bw) -/
def R_V : String := "SplitVault"
def R_M : String := "SplitVaultModel"
def R_B : String := "SplitVault$Bytes"
def R_H : String := "SplitVault$Helpers"
def R_J : String := "SplitVault$Job"
def R_G : String := "SplitVault$Log"
def R_P : String := "SplitVault$Pool"
def R_L : String := "SplitVaultLaw"
def R_A : String := "java/util/Arrays"
def R_T : String := "java/lang/Math"
abbrev b_V_init : ByteArray := prog_1_method_1_code
def y_V_init : MethodName := ⟨R_V, "<init>", "(II)V"⟩
abbrev b_P_init : ByteArray := prog_6_method_1_code
def y_P_init : MethodName := ⟨R_P, "<init>", "()V"⟩
abbrev b_J_init : ByteArray := prog_4_method_1_code
def y_J_init : MethodName := ⟨R_J, "<init>", "()V"⟩
abbrev b_G_init : ByteArray := prog_5_method_1_code
def y_G_init : MethodName := ⟨R_G, "<init>", "()V"⟩
abbrev b_T_max : ByteArray := prog_13_method_65_code
def y_T_max : MethodName := ⟨R_T, "max", "(II)I"⟩
abbrev b_T_min : ByteArray := prog_13_method_69_code
def y_T_min : MethodName := ⟨R_T, "min", "(II)I"⟩
abbrev b_H_init : ByteArray := prog_3_method_1_code
def y_H_init : MethodName := ⟨R_H, "<init>", "(I)V"⟩
abbrev b_V_pool : ByteArray := prog_1_method_3_code
def y_V_pool : MethodName := ⟨R_V, "pool", "()I"⟩
abbrev b_V_resume : ByteArray := prog_1_method_9_code
def y_V_resume : MethodName := ⟨R_V, "resume", "()I"⟩
abbrev b_J_finish : ByteArray := prog_4_method_6_code
def y_J_finish : MethodName := ⟨R_J, "finish", "()V"⟩
abbrev b_J_tidy : ByteArray := prog_4_method_5_code
def y_J_tidy : MethodName := ⟨R_J, "tidy", "(II)V"⟩
abbrev b_J_send : ByteArray := prog_4_method_3_code
def y_J_send : MethodName := ⟨R_J, "send", "(III)Z"⟩
abbrev b_G_note : ByteArray := prog_5_method_2_code
def y_G_note : MethodName := ⟨R_G, "note", "(III)V"⟩
abbrev b_V_stopped : ByteArray := prog_1_method_10_code
def y_V_stopped : MethodName := ⟨R_V, "stopped", "()Z"⟩
abbrev b_V_files : ByteArray := prog_1_method_16_code
def y_V_files : MethodName := ⟨R_V, "files", "()I"⟩
abbrev b_V_keptFiles : ByteArray := prog_1_method_27_code
def y_V_keptFiles : MethodName := ⟨R_V, "keptFiles", "()I"⟩
abbrev b_V_epoch : ByteArray := prog_1_method_17_code
def y_V_epoch : MethodName := ⟨R_V, "epoch", "()I"⟩
abbrev b_V_sent : ByteArray := prog_1_method_18_code
def y_V_sent : MethodName := ⟨R_V, "sent", "()I"⟩
abbrev b_L_cell : ByteArray := method_2_code
def y_L_cell : MethodName := ⟨R_L, "cell", "([II)I"⟩
abbrev b_L_feed : ByteArray := method_3_code
def y_L_feed : MethodName := ⟨R_L, "feed", "(LSplitVault;JI[J)I"⟩
abbrev b_V_feed : ByteArray := prog_1_method_2_code
def y_V_feed : MethodName := ⟨R_V, "feed", "(JI)I"⟩
abbrev b_B_ofLong : ByteArray := prog_2_method_2_code
def y_B_ofLong : MethodName := ⟨R_B, "ofLong", "(JI)I"⟩
abbrev b_P_put : ByteArray := prog_6_method_2_code
def y_P_put : MethodName := ⟨R_P, "put", "(I)V"⟩
abbrev b_L_store : ByteArray := method_4_code
def y_L_store : MethodName := ⟨R_L, "store", "(LSplitVault;IJI[J)I"⟩
abbrev b_V_store : ByteArray := prog_1_method_4_code
def y_V_store : MethodName := ⟨R_V, "store", "(IJI)I"⟩
abbrev b_V_checkFile : ByteArray := prog_1_method_29_code
def y_V_checkFile : MethodName := ⟨R_V, "checkFile", "(I)V"⟩
abbrev b_V_checkAllFilled : ByteArray := prog_1_method_32_code
def y_V_checkAllFilled : MethodName := ⟨R_V, "checkAllFilled", "()V"⟩
abbrev b_V_filledBoxes : ByteArray := prog_1_method_28_code
def y_V_filledBoxes : MethodName := ⟨R_V, "filledBoxes", "()I"⟩
abbrev b_V_checkNoneStopped : ByteArray := prog_1_method_33_code
def y_V_checkNoneStopped : MethodName := ⟨R_V, "checkNoneStopped", "()V"⟩
abbrev b_V_takenPerByte : ByteArray := prog_1_method_25_code
def y_V_takenPerByte : MethodName := ⟨R_V, "takenPerByte", "(I)I"⟩
abbrev b_V_checkPool : ByteArray := prog_1_method_34_code
def y_V_checkPool : MethodName := ⟨R_V, "checkPool", "(I)V"⟩
abbrev b_J_begin : ByteArray := prog_4_method_2_code
def y_J_begin : MethodName := ⟨R_J, "begin", "()V"⟩
abbrev b_V_slot : ByteArray := prog_1_method_24_code
def y_V_slot : MethodName := ⟨R_V, "slot", "(II)I"⟩
abbrev b_V_change : ByteArray := prog_1_method_20_code
def y_V_change : MethodName := ⟨R_V, "change", "(I)V"⟩
abbrev b_P_take : ByteArray := prog_6_method_3_code
def y_P_take : MethodName := ⟨R_P, "take", "()I"⟩
abbrev b_B_valueAt : ByteArray := prog_2_method_6_code
def y_B_valueAt : MethodName := ⟨R_B, "valueAt", "([II)I"⟩
abbrev b_B_product : ByteArray := prog_2_method_3_code
def y_B_product : MethodName := ⟨R_B, "product", "(II)I"⟩
abbrev b_J_flip : ByteArray := prog_4_method_4_code
def y_J_flip : MethodName := ⟨R_J, "flip", "()Z"⟩
abbrev b_V_adoptFile : ByteArray := prog_1_method_22_code
def y_V_adoptFile : MethodName := ⟨R_V, "adoptFile", "(I)V"⟩
abbrev b_V_adoptShares : ByteArray := prog_1_method_23_code
def y_V_adoptShares : MethodName := ⟨R_V, "adoptShares", "(II)V"⟩
abbrev b_L_refresh : ByteArray := method_5_code
def y_L_refresh : MethodName := ⟨R_L, "refresh", "(LSplitVault;[J)I"⟩
abbrev b_V_refresh : ByteArray := prog_1_method_5_code
def y_V_refresh : MethodName := ⟨R_V, "refresh", "()I"⟩
abbrev b_V_keptBytes : ByteArray := prog_1_method_26_code
def y_V_keptBytes : MethodName := ⟨R_V, "keptBytes", "()I"⟩
abbrev b_L_empty : ByteArray := method_6_code
def y_L_empty : MethodName := ⟨R_L, "empty", "(LSplitVault;I[J)I"⟩
abbrev b_V_empty : ByteArray := prog_1_method_6_code
def y_V_empty : MethodName := ⟨R_V, "empty", "(I)I"⟩
abbrev b_V_checkBox : ByteArray := prog_1_method_30_code
def y_V_checkBox : MethodName := ⟨R_V, "checkBox", "(I)V"⟩
abbrev b_A_fill : ByteArray := prog_18_method_103_code
def y_A_fill : MethodName := ⟨R_A, "fill", "([II)V"⟩
abbrev b_L_rebuild : ByteArray := method_7_code
def y_L_rebuild : MethodName := ⟨R_L, "rebuild", "(LSplitVault;II[J)I"⟩
abbrev b_V_rebuild : ByteArray := prog_1_method_7_code
def y_V_rebuild : MethodName := ⟨R_V, "rebuild", "(II)I"⟩
abbrev b_V_chooseHelpers : ByteArray := prog_1_method_35_code
def y_V_chooseHelpers : MethodName := ⟨R_V, "chooseHelpers", "(I)V"⟩
abbrev b_H_choose : ByteArray := prog_3_method_2_code
def y_H_choose : MethodName := ⟨R_H, "choose", "([ZI)Z"⟩
abbrev b_H_weigh : ByteArray := prog_3_method_3_code
def y_H_weigh : MethodName := ⟨R_H, "weigh", "(I)V"⟩
abbrev b_B_quotient : ByteArray := prog_2_method_4_code
def y_B_quotient : MethodName := ⟨R_B, "quotient", "(II)I"⟩
abbrev b_B_inverse : ByteArray := prog_2_method_5_code
def y_B_inverse : MethodName := ⟨R_B, "inverse", "(I)I"⟩
abbrev b_V_rebuildByte : ByteArray := prog_1_method_21_code
def y_V_rebuildByte : MethodName := ⟨R_V, "rebuildByte", "(II)V"⟩
abbrev b_H_clearSums : ByteArray := prog_3_method_6_code
def y_H_clearSums : MethodName := ⟨R_H, "clearSums", "()V"⟩
abbrev b_H_term : ByteArray := prog_3_method_4_code
def y_H_term : MethodName := ⟨R_H, "term", "(I[[II)I"⟩
abbrev b_L_stopAfter : ByteArray := method_8_code
def y_L_stopAfter : MethodName := ⟨R_L, "stopAfter", "(LSplitVault;I)I"⟩
abbrev b_V_stopAfter : ByteArray := prog_1_method_8_code
def y_V_stopAfter : MethodName := ⟨R_V, "stopAfter", "(I)V"⟩
abbrev b_L_restore : ByteArray := method_9_code
def y_L_restore : MethodName := ⟨R_L, "restore", "(LSplitVault;II[J)I"⟩
abbrev b_V_restore : ByteArray := prog_1_method_11_code
def y_V_restore : MethodName := ⟨R_V, "restore", "(II)J"⟩
abbrev b_V_checkKept : ByteArray := prog_1_method_31_code
def y_V_checkKept : MethodName := ⟨R_V, "checkKept", "(I)V"⟩
abbrev b_H_join : ByteArray := prog_3_method_5_code
def y_H_join : MethodName := ⟨R_H, "join", "([[II)I"⟩
abbrev b_L_length : ByteArray := method_10_code
def y_L_length : MethodName := ⟨R_L, "length", "(LSplitVault;I[J)I"⟩
abbrev b_V_length : ByteArray := prog_1_method_12_code
def y_V_length : MethodName := ⟨R_V, "length", "(I)I"⟩
abbrev b_L_share : ByteArray := method_11_code
def y_L_share : MethodName := ⟨R_L, "share", "(LSplitVault;III[J)I"⟩
abbrev b_V_share : ByteArray := prog_1_method_13_code
def y_V_share : MethodName := ⟨R_V, "share", "(III)I"⟩
abbrev b_L_forget : ByteArray := method_12_code
def y_L_forget : MethodName := ⟨R_L, "forget", "(LSplitVault;I[J)I"⟩
abbrev b_V_forget : ByteArray := prog_1_method_14_code
def y_V_forget : MethodName := ⟨R_V, "forget", "(I)I"⟩
abbrev b_L_need : ByteArray := method_13_code
def y_L_need : MethodName := ⟨R_L, "need", "(LSplitVault;I[J)I"⟩
abbrev b_V_need : ByteArray := prog_1_method_15_code
def y_V_need : MethodName := ⟨R_V, "need", "(I)I"⟩
abbrev b_L_message : ByteArray := method_14_code
def y_L_message : MethodName := ⟨R_L, "message", "(LSplitVault;II[J)I"⟩
abbrev b_V_message : ByteArray := prog_1_method_19_code
def y_V_message : MethodName := ⟨R_V, "message", "(II)I"⟩
abbrev b_G_remembered : ByteArray := prog_5_method_3_code
def y_G_remembered : MethodName := ⟨R_G, "remembered", "()I"⟩
abbrev b_G_look : ByteArray := prog_5_method_4_code
def y_G_look : MethodName := ⟨R_G, "look", "(II)I"⟩
abbrev b_M_init : ByteArray := prog_8_method_1_code
def y_M_init : MethodName := ⟨R_M, "<init>", "(II)V"⟩
abbrev b_M_thrown : ByteArray := prog_8_method_2_code
def y_M_thrown : MethodName := ⟨R_M, "thrown", "()I"⟩
abbrev b_M_feed : ByteArray := prog_8_method_6_code
def y_M_feed : MethodName := ⟨R_M, "feed", "(JI)I"⟩
abbrev b_M_pool : ByteArray := prog_8_method_7_code
def y_M_pool : MethodName := ⟨R_M, "pool", "()I"⟩
abbrev b_M_store : ByteArray := prog_8_method_22_code
def y_M_store : MethodName := ⟨R_M, "store", "(IJI)I"⟩
abbrev b_M_isFile : ByteArray := prog_8_method_15_code
def y_M_isFile : MethodName := ⟨R_M, "isFile", "(I)Z"⟩
abbrev b_M_filled : ByteArray := prog_8_method_13_code
def y_M_filled : MethodName := ⟨R_M, "filled", "()I"⟩
abbrev b_M_copyFresh : ByteArray := prog_8_method_21_code
def y_M_copyFresh : MethodName := ⟨R_M, "copyFresh", "()V"⟩
abbrev b_M_run : ByteArray := prog_8_method_20_code
def y_M_run : MethodName := ⟨R_M, "run", "(II)I"⟩
abbrev b_M_take : ByteArray := prog_8_method_8_code
def y_M_take : MethodName := ⟨R_M, "take", "(I)V"⟩
abbrev b_M_build : ByteArray := prog_8_method_17_code
def y_M_build : MethodName := ⟨R_M, "build", "(II)V"⟩
abbrev b_M_valueAt : ByteArray := prog_8_method_5_code
def y_M_valueAt : MethodName := ⟨R_M, "valueAt", "([III)I"⟩
abbrev b_M_product : ByteArray := prog_8_method_3_code
def y_M_product : MethodName := ⟨R_M, "product", "(II)I"⟩
abbrev b_M_quotient : ByteArray := prog_8_method_4_code
def y_M_quotient : MethodName := ⟨R_M, "quotient", "(II)I"⟩
abbrev b_M_nextTaken : ByteArray := prog_8_method_9_code
def y_M_nextTaken : MethodName := ⟨R_M, "nextTaken", "()I"⟩
abbrev b_M_send : ByteArray := prog_8_method_10_code
def y_M_send : MethodName := ⟨R_M, "send", "(III)V"⟩
abbrev b_M_deal : ByteArray := prog_8_method_16_code
def y_M_deal : MethodName := ⟨R_M, "deal", "(II)V"⟩
abbrev b_M_flip : ByteArray := prog_8_method_19_code
def y_M_flip : MethodName := ⟨R_M, "flip", "()V"⟩
abbrev b_M_tidy : ByteArray := prog_8_method_18_code
def y_M_tidy : MethodName := ⟨R_M, "tidy", "()V"⟩
abbrev b_M_refresh : ByteArray := prog_8_method_23_code
def y_M_refresh : MethodName := ⟨R_M, "refresh", "()I"⟩
abbrev b_M_total : ByteArray := prog_8_method_11_code
def y_M_total : MethodName := ⟨R_M, "total", "()I"⟩
abbrev b_M_empty : ByteArray := prog_8_method_24_code
def y_M_empty : MethodName := ⟨R_M, "empty", "(I)I"⟩
abbrev b_M_isBox : ByteArray := prog_8_method_14_code
def y_M_isBox : MethodName := ⟨R_M, "isBox", "(I)Z"⟩
abbrev b_M_rebuild : ByteArray := prog_8_method_26_code
def y_M_rebuild : MethodName := ⟨R_M, "rebuild", "(II)I"⟩
abbrev b_M_some : ByteArray := prog_8_method_25_code
def y_M_some : MethodName := ⟨R_M, "some", "(I)I"⟩
abbrev b_M_stopAfter : ByteArray := prog_8_method_27_code
def y_M_stopAfter : MethodName := ⟨R_M, "stopAfter", "(I)V"⟩
abbrev b_M_resume : ByteArray := prog_8_method_28_code
def y_M_resume : MethodName := ⟨R_M, "resume", "()I"⟩
abbrev b_M_stopped : ByteArray := prog_8_method_29_code
def y_M_stopped : MethodName := ⟨R_M, "stopped", "()Z"⟩
abbrev b_M_restore : ByteArray := prog_8_method_30_code
def y_M_restore : MethodName := ⟨R_M, "restore", "(II)J"⟩
abbrev b_M_length : ByteArray := prog_8_method_31_code
def y_M_length : MethodName := ⟨R_M, "length", "(I)I"⟩
abbrev b_M_share : ByteArray := prog_8_method_32_code
def y_M_share : MethodName := ⟨R_M, "share", "(III)I"⟩
abbrev b_M_forget : ByteArray := prog_8_method_33_code
def y_M_forget : MethodName := ⟨R_M, "forget", "(I)I"⟩
abbrev b_M_kept : ByteArray := prog_8_method_12_code
def y_M_kept : MethodName := ⟨R_M, "kept", "()I"⟩
abbrev b_M_need : ByteArray := prog_8_method_34_code
def y_M_need : MethodName := ⟨R_M, "need", "(I)I"⟩
abbrev b_M_files : ByteArray := prog_8_method_35_code
def y_M_files : MethodName := ⟨R_M, "files", "()I"⟩
abbrev b_M_epoch : ByteArray := prog_8_method_36_code
def y_M_epoch : MethodName := ⟨R_M, "epoch", "()I"⟩
abbrev b_M_sent : ByteArray := prog_8_method_37_code
def y_M_sent : MethodName := ⟨R_M, "sent", "()I"⟩
abbrev b_M_message : ByteArray := prog_8_method_38_code
def y_M_message : MethodName := ⟨R_M, "message", "(II)I"⟩
def F_P : u_T := fun k => match k with
  | 0 => (R_P, "ring", "[I", true)
  | 1 => (R_P, "front", "I", false)
  | _ => (R_P, "count", "I", false)
def t_P : Nat → FieldType := fun k => match k with
  | 0 => .array .int
  | 1 => .int
  | _ => .int
theorem n_P : ∀ a, a < 3 → ∀ b, b < 3 → a ≠ b → (F_P a).2.1 ≠ (F_P b).2.1 := by decide +kernel
theorem t_P_ok : ∀ k, k < 3 → parseFieldDescriptor (F_P k).2.2.1 = some (t_P k) := by decide +kernel
def F_G : u_T := fun k => match k with
  | 0 => (R_G, "ring", "[I", true)
  | _ => (R_G, "total", "I", false)
def t_G : Nat → FieldType := fun k => match k with
  | 0 => .array .int
  | _ => .int
theorem n_G : ∀ a, a < 2 → ∀ b, b < 2 → a ≠ b → (F_G a).2.1 ≠ (F_G b).2.1 := by decide +kernel
theorem t_G_ok : ∀ k, k < 2 → parseFieldDescriptor (F_G k).2.2.1 = some (t_G k) := by decide +kernel
def F_J : u_T := fun k => match k with
  | 0 => (R_J, "log", "LSplitVault$Log;", true)
  | 1 => (R_J, "wish", "I", false)
  | 2 => (R_J, "isStopped", "Z", false)
  | 3 => (R_J, "hasFlipped", "Z", false)
  | 4 => (R_J, "sentNow", "I", false)
  | 5 => (R_J, "limit", "I", false)
  | 6 => (R_J, "nextTidy", "I", false)
  | _ => (R_J, "lastTidy", "I", false)
def t_J : Nat → FieldType := fun k => match k with
  | 0 => .object "SplitVault$Log"
  | 1 => .int
  | 2 => .boolean
  | 3 => .boolean
  | 4 => .int
  | 5 => .int
  | 6 => .int
  | _ => .int
theorem n_J : ∀ a, a < 8 → ∀ b, b < 8 → a ≠ b → (F_J a).2.1 ≠ (F_J b).2.1 := by decide +kernel
theorem t_J_ok : ∀ k, k < 8 → parseFieldDescriptor (F_J k).2.2.1 = some (t_J k) := by decide +kernel
def F_H : u_T := fun k => match k with
  | 0 => (R_H, "numbers", "[I", true)
  | 1 => (R_H, "sums", "[I", true)
  | _ => (R_H, "weights", "[I", true)
def t_H : Nat → FieldType := fun k => match k with
  | 0 => .array .int
  | 1 => .array .int
  | _ => .array .int
theorem n_H : ∀ a, a < 3 → ∀ b, b < 3 → a ≠ b → (F_H a).2.1 ≠ (F_H b).2.1 := by decide +kernel
theorem t_H_ok : ∀ k, k < 3 → parseFieldDescriptor (F_H k).2.2.1 = some (t_H k) := by decide +kernel
def F_V : u_T := fun k => match k with
  | 0 => (R_V, "parts", "I", true)
  | 1 => (R_V, "boxes", "I", true)
  | 2 => (R_V, "pool", "LSplitVault$Pool;", true)
  | 3 => (R_V, "work", "LSplitVault$Job;", true)
  | 4 => (R_V, "helpers", "LSplitVault$Helpers;", true)
  | 5 => (R_V, "held", "[[I", true)
  | 6 => (R_V, "fresh", "[[I", true)
  | 7 => (R_V, "changes", "[I", true)
  | 8 => (R_V, "lengths", "[I", true)
  | 9 => (R_V, "filled", "[Z", true)
  | _ => (R_V, "epoch", "I", false)
def t_V : Nat → FieldType := fun k => match k with
  | 0 => .int
  | 1 => .int
  | 2 => .object "SplitVault$Pool"
  | 3 => .object "SplitVault$Job"
  | 4 => .object "SplitVault$Helpers"
  | 5 => .array (.array .int)
  | 6 => .array (.array .int)
  | 7 => .array .int
  | 8 => .array .int
  | 9 => .array .boolean
  | _ => .int
theorem n_V : ∀ a, a < 11 → ∀ b, b < 11 → a ≠ b → (F_V a).2.1 ≠ (F_V b).2.1 := by decide +kernel
theorem t_V_ok : ∀ k, k < 11 → parseFieldDescriptor (F_V k).2.2.1 = some (t_V k) := by decide +kernel
def F_M : u_T := fun k => match k with
  | 0 => (R_M, "code", "I", false)
  | 1 => (R_M, "k", "I", true)
  | 2 => (R_M, "n", "I", true)
  | 3 => (R_M, "pooled", "I", false)
  | 4 => (R_M, "pool", "[I", true)
  | 5 => (R_M, "taken", "[I", true)
  | 6 => (R_M, "next", "I", false)
  | 7 => (R_M, "lengths", "[I", true)
  | 8 => (R_M, "coefficients", "[I", true)
  | 9 => (R_M, "fresh", "[I", true)
  | 10 => (R_M, "epoch", "I", false)
  | 11 => (R_M, "emptied", "[Z", true)
  | 12 => (R_M, "sent", "I", false)
  | 13 => (R_M, "messages", "[I", true)
  | 14 => (R_M, "left", "I", false)
  | 15 => (R_M, "cut", "Z", false)
  | 16 => (R_M, "wish", "I", false)
  | 17 => (R_M, "job", "I", false)
  | 18 => (R_M, "flipped", "Z", false)
  | 19 => (R_M, "tidyFrom", "I", false)
  | 20 => (R_M, "tidyTo", "I", false)
  | 21 => (R_M, "file", "I", false)
  | 22 => (R_M, "length", "I", false)
  | 23 => (R_M, "box", "I", false)
  | 24 => (R_M, "helpers", "[I", true)
  | _ => (R_M, "sums", "[I", true)
def t_M : Nat → FieldType := fun k => match k with
  | 0 => .int
  | 1 => .int
  | 2 => .int
  | 3 => .int
  | 4 => .array .int
  | 5 => .array .int
  | 6 => .int
  | 7 => .array .int
  | 8 => .array .int
  | 9 => .array .int
  | 10 => .int
  | 11 => .array .boolean
  | 12 => .int
  | 13 => .array .int
  | 14 => .int
  | 15 => .boolean
  | 16 => .int
  | 17 => .int
  | 18 => .boolean
  | 19 => .int
  | 20 => .int
  | 21 => .int
  | 22 => .int
  | 23 => .int
  | 24 => .array .int
  | _ => .array .int
theorem n_M : ∀ a, a < 26 → ∀ b, b < 26 → a ≠ b → (F_M a).2.1 ≠ (F_M b).2.1 := by decide +kernel
theorem t_M_ok : ∀ k, k < 26 → parseFieldDescriptor (F_M k).2.2.1 = some (t_M k) := by decide +kernel
abbrev cls : List vw_C := [(R_P, F_P, 3), (R_G, F_G, 2), (R_J, F_J, 8), (R_H, F_H, 3), (R_V, F_V, 11), (R_M, F_M, 26)]
def bw : List Cond := lw_tbl.filter goodWord
theorem bw_t {w : Cond} {i : Nat} (h : tables_1[i]? = some w) (g : goodWord w = true) : w ∈ bw := List.mem_filter.mpr ⟨List.mem_append_right _ (List.mem_of_getElem? h), g⟩
theorem bw_s {y : MethodName} {n i : Nat} (h : lw_privs[i]? = some (y, n)) : Cond.selects y.cls y y ∈ bw := List.mem_filter.mpr ⟨List.mem_append_left _ (List.mem_map.mpr ⟨(y, n), List.mem_of_getElem? h, rfl⟩), rfl⟩
theorem bw_good : ∀ w ∈ bw, (w.onTables && w.keeps) = true ∨ ∃ ty, w = .arrayClass ty := fun w h => good_of_word (List.mem_filter.mp h).2
theorem bw_in {c : Cond} (h : c ∈ bw) : GoodIn bw (c :: bw) := fun w hw => (List.mem_cons.mp hw).elim (fun e => by rw [e]; exact ⟨h, bw_good _ h⟩) (fun h => ⟨h, bw_good _ h⟩)
end
section
/-! the words, by name: wf_ a field link, wm_ a method link, wk_ a class link, wi_ initialized, wn_ instantiable, wo_ an instance method, ws_ a static one, wz_ selects, wc_ code -/
theorem wi_L : Cond.initialized R_L ∈ bw := bw_t (i := 0) (by decide +kernel) (by decide +kernel)
theorem wi_V : Cond.initialized R_V ∈ bw := bw_t (i := 1) (by decide +kernel) (by decide +kernel)
theorem wi_P : Cond.initialized R_P ∈ bw := bw_t (i := 2) (by decide +kernel) (by decide +kernel)
theorem wi_J : Cond.initialized R_J ∈ bw := bw_t (i := 3) (by decide +kernel) (by decide +kernel)
theorem wi_G : Cond.initialized R_G ∈ bw := bw_t (i := 4) (by decide +kernel) (by decide +kernel)
theorem wi_T : Cond.initialized R_T ∈ bw := bw_t (i := 5) (by decide +kernel) (by decide +kernel)
theorem wi_H : Cond.initialized R_H ∈ bw := bw_t (i := 6) (by decide +kernel) (by decide +kernel)
theorem wi_M : Cond.initialized R_M ∈ bw := bw_t (i := 7) (by decide +kernel) (by decide +kernel)
theorem wi_Throwable : Cond.initialized "java/lang/Throwable" ∈ bw := bw_t (i := 8) (by decide +kernel) (by decide +kernel)
theorem wi_Exception : Cond.initialized "java/lang/Exception" ∈ bw := bw_t (i := 9) (by decide +kernel) (by decide +kernel)
theorem wi_RuntimeException : Cond.initialized "java/lang/RuntimeException" ∈ bw := bw_t (i := 10) (by decide +kernel) (by decide +kernel)
theorem wi_IllegalArgumentException : Cond.initialized "java/lang/IllegalArgumentException" ∈ bw := bw_t (i := 11) (by decide +kernel) (by decide +kernel)
theorem wi_UnsupportedOperationException : Cond.initialized "java/lang/UnsupportedOperationException" ∈ bw := bw_t (i := 12) (by decide +kernel) (by decide +kernel)
theorem wi_B : Cond.initialized R_B ∈ bw := bw_t (i := 13) (by decide +kernel) (by decide +kernel)
theorem wi_IllegalStateException : Cond.initialized "java/lang/IllegalStateException" ∈ bw := bw_t (i := 14) (by decide +kernel) (by decide +kernel)
theorem wi_A : Cond.initialized R_A ∈ bw := bw_t (i := 15) (by decide +kernel) (by decide +kernel)
theorem wi_NoSuchElementException : Cond.initialized "java/util/NoSuchElementException" ∈ bw := bw_t (i := 16) (by decide +kernel) (by decide +kernel)
theorem wi_IndexOutOfBoundsException : Cond.initialized "java/lang/IndexOutOfBoundsException" ∈ bw := bw_t (i := 17) (by decide +kernel) (by decide +kernel)
theorem wk_L_8 : Cond.classLink R_L 8 R_V ∈ bw := bw_t (i := 18) (by decide +kernel) (by decide +kernel)
theorem wn_V : Cond.instantiable R_V 11 ∈ bw := bw_t (i := 19) (by decide +kernel) (by decide +kernel)
theorem wm_L_69 : Cond.methodLink R_L 69 y_V_init ∈ bw := bw_t (i := 20) (by decide +kernel) (by decide +kernel)
theorem wo_V_init : Cond.instanceMethod y_V_init ∈ bw := bw_t (i := 21) (by decide +kernel) (by decide +kernel)
theorem wm_V_1 : Cond.methodLink R_V 1 objectInit ∈ bw := bw_t (i := 23) (by decide +kernel) (by decide +kernel)
theorem wo_object : Cond.instanceMethod objectInit ∈ bw := bw_t (i := 24) (by decide +kernel) (by decide +kernel)
theorem wc_object : Cond.code objectInit ⟨#[0xb1]⟩ 1 none ∈ bw := bw_t (i := 25) (by decide +kernel) (by decide +kernel)
theorem wk_V_7 : Cond.classLink R_V 7 R_P ∈ bw := bw_t (i := 26) (by decide +kernel) (by decide +kernel)
theorem wn_P : Cond.instantiable R_P 3 ∈ bw := bw_t (i := 27) (by decide +kernel) (by decide +kernel)
theorem wo_P_init : Cond.instanceMethod y_P_init ∈ bw := bw_t (i := 29) (by decide +kernel) (by decide +kernel)
theorem wm_P_1 : Cond.methodLink R_P 1 objectInit ∈ bw := bw_t (i := 31) (by decide +kernel) (by decide +kernel)
theorem wf_P_9 : Cond.fieldLink R_P 9 R_P "ring" "[I" ∈ bw := bw_t (i := 32) (by decide +kernel) (by decide +kernel)
theorem wf_P_13 : Cond.fieldLink R_P 13 R_P "front" "I" ∈ bw := bw_t (i := 33) (by decide +kernel) (by decide +kernel)
theorem wf_P_17 : Cond.fieldLink R_P 17 R_P "count" "I" ∈ bw := bw_t (i := 34) (by decide +kernel) (by decide +kernel)
theorem wf_V_77 : Cond.fieldLink R_V 77 R_P "count" "I" ∈ bw := bw_t (i := 35) (by decide +kernel) (by decide +kernel)
theorem wa_int : Cond.arrayClass .int ∈ bw := bw_t (i := 43) (by decide +kernel) (by decide +kernel)
theorem wk_V_16 : Cond.classLink R_V 16 R_J ∈ bw := bw_t (i := 44) (by decide +kernel) (by decide +kernel)
theorem wn_J : Cond.instantiable R_J 8 ∈ bw := bw_t (i := 45) (by decide +kernel) (by decide +kernel)
theorem wo_J_init : Cond.instanceMethod y_J_init ∈ bw := bw_t (i := 47) (by decide +kernel) (by decide +kernel)
theorem wm_J_3 : Cond.methodLink R_J 3 objectInit ∈ bw := bw_t (i := 49) (by decide +kernel) (by decide +kernel)
theorem wk_J_9 : Cond.classLink R_J 9 R_G ∈ bw := bw_t (i := 50) (by decide +kernel) (by decide +kernel)
theorem wn_G : Cond.instantiable R_G 2 ∈ bw := bw_t (i := 51) (by decide +kernel) (by decide +kernel)
theorem wo_G_init : Cond.instanceMethod y_G_init ∈ bw := bw_t (i := 53) (by decide +kernel) (by decide +kernel)
theorem wm_G_1 : Cond.methodLink R_G 1 objectInit ∈ bw := bw_t (i := 55) (by decide +kernel) (by decide +kernel)
theorem wf_G_9 : Cond.fieldLink R_G 9 R_G "ring" "[I" ∈ bw := bw_t (i := 56) (by decide +kernel) (by decide +kernel)
theorem wf_G_13 : Cond.fieldLink R_G 13 R_G "total" "I" ∈ bw := bw_t (i := 57) (by decide +kernel) (by decide +kernel)
theorem wf_V_208 : Cond.fieldLink R_V 208 R_G "total" "I" ∈ bw := bw_t (i := 58) (by decide +kernel) (by decide +kernel)
theorem wf_J_12 : Cond.fieldLink R_J 12 R_J "log" "LSplitVault$Log;" ∈ bw := bw_t (i := 64) (by decide +kernel) (by decide +kernel)
theorem wf_V_204 : Cond.fieldLink R_V 204 R_J "log" "LSplitVault$Log;" ∈ bw := bw_t (i := 65) (by decide +kernel) (by decide +kernel)
theorem wf_J_18 : Cond.fieldLink R_J 18 R_J "wish" "I" ∈ bw := bw_t (i := 66) (by decide +kernel) (by decide +kernel)
theorem wf_V_174 : Cond.fieldLink R_V 174 R_J "wish" "I" ∈ bw := bw_t (i := 67) (by decide +kernel) (by decide +kernel)
theorem wf_J_22 : Cond.fieldLink R_J 22 R_J "isStopped" "Z" ∈ bw := bw_t (i := 68) (by decide +kernel) (by decide +kernel)
theorem wf_V_177 : Cond.fieldLink R_V 177 R_J "isStopped" "Z" ∈ bw := bw_t (i := 69) (by decide +kernel) (by decide +kernel)
theorem wf_J_26 : Cond.fieldLink R_J 26 R_J "hasFlipped" "Z" ∈ bw := bw_t (i := 70) (by decide +kernel) (by decide +kernel)
theorem wf_V_181 : Cond.fieldLink R_V 181 R_J "hasFlipped" "Z" ∈ bw := bw_t (i := 71) (by decide +kernel) (by decide +kernel)
theorem wf_J_29 : Cond.fieldLink R_J 29 R_J "sentNow" "I" ∈ bw := bw_t (i := 72) (by decide +kernel) (by decide +kernel)
theorem wf_V_135 : Cond.fieldLink R_V 135 R_J "sentNow" "I" ∈ bw := bw_t (i := 73) (by decide +kernel) (by decide +kernel)
theorem wf_J_32 : Cond.fieldLink R_J 32 R_J "limit" "I" ∈ bw := bw_t (i := 74) (by decide +kernel) (by decide +kernel)
theorem wf_J_35 : Cond.fieldLink R_J 35 R_J "nextTidy" "I" ∈ bw := bw_t (i := 75) (by decide +kernel) (by decide +kernel)
theorem wf_J_38 : Cond.fieldLink R_J 38 R_J "lastTidy" "I" ∈ bw := bw_t (i := 76) (by decide +kernel) (by decide +kernel)
theorem wm_V_31 : Cond.methodLink R_V 31 y_T_max ∈ bw := bw_t (i := 94) (by decide +kernel) (by decide +kernel)
theorem ws_T_max : Cond.static y_T_max ∈ bw := bw_t (i := 95) (by decide +kernel) (by decide +kernel)
theorem wm_V_37 : Cond.methodLink R_V 37 y_T_min ∈ bw := bw_t (i := 97) (by decide +kernel) (by decide +kernel)
theorem ws_T_min : Cond.static y_T_min ∈ bw := bw_t (i := 98) (by decide +kernel) (by decide +kernel)
theorem wk_V_46 : Cond.classLink R_V 46 R_H ∈ bw := bw_t (i := 100) (by decide +kernel) (by decide +kernel)
theorem wn_H : Cond.instantiable R_H 3 ∈ bw := bw_t (i := 101) (by decide +kernel) (by decide +kernel)
theorem wm_V_48 : Cond.methodLink R_V 48 y_H_init ∈ bw := bw_t (i := 102) (by decide +kernel) (by decide +kernel)
theorem wo_H_init : Cond.instanceMethod y_H_init ∈ bw := bw_t (i := 103) (by decide +kernel) (by decide +kernel)
theorem wm_H_1 : Cond.methodLink R_H 1 objectInit ∈ bw := bw_t (i := 105) (by decide +kernel) (by decide +kernel)
theorem wf_H_7 : Cond.fieldLink R_H 7 R_H "numbers" "[I" ∈ bw := bw_t (i := 106) (by decide +kernel) (by decide +kernel)
theorem wf_V_244 : Cond.fieldLink R_V 244 R_H "numbers" "[I" ∈ bw := bw_t (i := 107) (by decide +kernel) (by decide +kernel)
theorem wf_H_13 : Cond.fieldLink R_H 13 R_H "sums" "[I" ∈ bw := bw_t (i := 108) (by decide +kernel) (by decide +kernel)
theorem wf_V_241 : Cond.fieldLink R_V 241 R_H "sums" "[I" ∈ bw := bw_t (i := 109) (by decide +kernel) (by decide +kernel)
theorem wf_H_16 : Cond.fieldLink R_H 16 R_H "weights" "[I" ∈ bw := bw_t (i := 110) (by decide +kernel) (by decide +kernel)
theorem wk_V_55 : Cond.classLink R_V 55 "[[I" ∈ bw := bw_t (i := 118) (by decide +kernel) (by decide +kernel)
theorem wf_V_43 : Cond.fieldLink R_V 43 R_V "parts" "I" ∈ bw := bw_t (i := 120) (by decide +kernel) (by decide +kernel)
theorem wf_V_40 : Cond.fieldLink R_V 40 R_V "boxes" "I" ∈ bw := bw_t (i := 121) (by decide +kernel) (by decide +kernel)
theorem wf_V_10 : Cond.fieldLink R_V 10 R_V "pool" "LSplitVault$Pool;" ∈ bw := bw_t (i := 122) (by decide +kernel) (by decide +kernel)
theorem wf_V_19 : Cond.fieldLink R_V 19 R_V "work" "LSplitVault$Job;" ∈ bw := bw_t (i := 123) (by decide +kernel) (by decide +kernel)
theorem wf_V_51 : Cond.fieldLink R_V 51 R_V "helpers" "LSplitVault$Helpers;" ∈ bw := bw_t (i := 124) (by decide +kernel) (by decide +kernel)
theorem wf_V_57 : Cond.fieldLink R_V 57 R_V "held" "[[I" ∈ bw := bw_t (i := 125) (by decide +kernel) (by decide +kernel)
theorem wf_V_60 : Cond.fieldLink R_V 60 R_V "fresh" "[[I" ∈ bw := bw_t (i := 126) (by decide +kernel) (by decide +kernel)
theorem wf_V_63 : Cond.fieldLink R_V 63 R_V "changes" "[I" ∈ bw := bw_t (i := 127) (by decide +kernel) (by decide +kernel)
theorem wf_V_23 : Cond.fieldLink R_V 23 R_V "lengths" "[I" ∈ bw := bw_t (i := 128) (by decide +kernel) (by decide +kernel)
theorem wf_V_66 : Cond.fieldLink R_V 66 R_V "filled" "[Z" ∈ bw := bw_t (i := 129) (by decide +kernel) (by decide +kernel)
theorem wf_V_27 : Cond.fieldLink R_V 27 R_V "epoch" "I" ∈ bw := bw_t (i := 130) (by decide +kernel) (by decide +kernel)
theorem wa_boolean : Cond.arrayClass .boolean ∈ bw := bw_t (i := 154) (by decide +kernel) (by decide +kernel)
theorem wm_L_84 : Cond.methodLink R_L 84 y_V_pool ∈ bw := bw_t (i := 155) (by decide +kernel) (by decide +kernel)
theorem wo_V_pool : Cond.instanceMethod y_V_pool ∈ bw := bw_t (i := 156) (by decide +kernel) (by decide +kernel)
theorem wz_V_pool : Cond.selects R_V y_V_pool y_V_pool ∈ bw := bw_t (i := 157) (by decide +kernel) (by decide +kernel)
theorem wm_L_108 : Cond.methodLink R_L 108 y_V_resume ∈ bw := bw_t (i := 159) (by decide +kernel) (by decide +kernel)
theorem wo_V_resume : Cond.instanceMethod y_V_resume ∈ bw := bw_t (i := 160) (by decide +kernel) (by decide +kernel)
theorem wz_V_resume : Cond.selects R_V y_V_resume y_V_resume ∈ bw := bw_t (i := 161) (by decide +kernel) (by decide +kernel)
theorem wm_V_184 : Cond.methodLink R_V 184 y_J_finish ∈ bw := bw_t (i := 163) (by decide +kernel) (by decide +kernel)
theorem wo_J_finish : Cond.instanceMethod y_J_finish ∈ bw := bw_t (i := 164) (by decide +kernel) (by decide +kernel)
theorem wz_J_finish : Cond.selects R_J y_J_finish y_J_finish ∈ bw := bw_t (i := 165) (by decide +kernel) (by decide +kernel)
theorem wm_J_49 : Cond.methodLink R_J 49 y_J_tidy ∈ bw := bw_t (i := 167) (by decide +kernel) (by decide +kernel)
theorem wo_J_tidy : Cond.instanceMethod y_J_tidy ∈ bw := bw_t (i := 168) (by decide +kernel) (by decide +kernel)
theorem wz_J_tidy : Cond.selects R_J y_J_tidy y_J_tidy ∈ bw := bw_t (i := 169) (by decide +kernel) (by decide +kernel)
theorem wm_J_45 : Cond.methodLink R_J 45 y_J_send ∈ bw := bw_t (i := 171) (by decide +kernel) (by decide +kernel)
theorem wo_J_send : Cond.instanceMethod y_J_send ∈ bw := bw_t (i := 172) (by decide +kernel) (by decide +kernel)
theorem wz_J_send : Cond.selects R_J y_J_send y_J_send ∈ bw := bw_t (i := 173) (by decide +kernel) (by decide +kernel)
theorem wm_J_41 : Cond.methodLink R_J 41 y_G_note ∈ bw := bw_t (i := 175) (by decide +kernel) (by decide +kernel)
theorem wo_G_note : Cond.instanceMethod y_G_note ∈ bw := bw_t (i := 176) (by decide +kernel) (by decide +kernel)
theorem wz_G_note : Cond.selects R_G y_G_note y_G_note ∈ bw := bw_t (i := 177) (by decide +kernel) (by decide +kernel)
theorem wm_L_112 : Cond.methodLink R_L 112 y_V_stopped ∈ bw := bw_t (i := 179) (by decide +kernel) (by decide +kernel)
theorem wo_V_stopped : Cond.instanceMethod y_V_stopped ∈ bw := bw_t (i := 180) (by decide +kernel) (by decide +kernel)
theorem wz_V_stopped : Cond.selects R_V y_V_stopped y_V_stopped ∈ bw := bw_t (i := 181) (by decide +kernel) (by decide +kernel)
theorem wm_L_133 : Cond.methodLink R_L 133 y_V_files ∈ bw := bw_t (i := 183) (by decide +kernel) (by decide +kernel)
theorem wo_V_files : Cond.instanceMethod y_V_files ∈ bw := bw_t (i := 184) (by decide +kernel) (by decide +kernel)
theorem wz_V_files : Cond.selects R_V y_V_files y_V_files ∈ bw := bw_t (i := 185) (by decide +kernel) (by decide +kernel)
theorem wm_V_199 : Cond.methodLink R_V 199 y_V_keptFiles ∈ bw := bw_t (i := 187) (by decide +kernel) (by decide +kernel)
theorem wo_V_keptFiles : Cond.instanceMethod y_V_keptFiles ∈ bw := bw_t (i := 189) (by decide +kernel) (by decide +kernel)
theorem wm_L_137 : Cond.methodLink R_L 137 y_V_epoch ∈ bw := bw_t (i := 191) (by decide +kernel) (by decide +kernel)
theorem wo_V_epoch : Cond.instanceMethod y_V_epoch ∈ bw := bw_t (i := 192) (by decide +kernel) (by decide +kernel)
theorem wz_V_epoch : Cond.selects R_V y_V_epoch y_V_epoch ∈ bw := bw_t (i := 193) (by decide +kernel) (by decide +kernel)
theorem wm_L_141 : Cond.methodLink R_L 141 y_V_sent ∈ bw := bw_t (i := 195) (by decide +kernel) (by decide +kernel)
theorem wo_V_sent : Cond.instanceMethod y_V_sent ∈ bw := bw_t (i := 196) (by decide +kernel) (by decide +kernel)
theorem wz_V_sent : Cond.selects R_V y_V_sent y_V_sent ∈ bw := bw_t (i := 197) (by decide +kernel) (by decide +kernel)
theorem wm_L_63 : Cond.methodLink R_L 63 y_L_cell ∈ bw := bw_t (i := 199) (by decide +kernel) (by decide +kernel)
theorem ws_L_cell : Cond.static y_L_cell ∈ bw := bw_t (i := 200) (by decide +kernel) (by decide +kernel)
theorem wm_L_77 : Cond.methodLink R_L 77 y_L_feed ∈ bw := bw_t (i := 202) (by decide +kernel) (by decide +kernel)
theorem ws_L_feed : Cond.static y_L_feed ∈ bw := bw_t (i := 203) (by decide +kernel) (by decide +kernel)
theorem wk_L_13 : Cond.classLink R_L 13 "java/lang/IllegalArgumentException" ∈ bw := bw_t (i := 205) (by decide +kernel) (by decide +kernel)
theorem wk_L_15 : Cond.classLink R_L 15 "java/lang/UnsupportedOperationException" ∈ bw := bw_t (i := 206) (by decide +kernel) (by decide +kernel)
theorem wm_L_7 : Cond.methodLink R_L 7 y_V_feed ∈ bw := bw_t (i := 207) (by decide +kernel) (by decide +kernel)
theorem wo_V_feed : Cond.instanceMethod y_V_feed ∈ bw := bw_t (i := 208) (by decide +kernel) (by decide +kernel)
theorem wz_V_feed : Cond.selects R_V y_V_feed y_V_feed ∈ bw := bw_t (i := 209) (by decide +kernel) (by decide +kernel)
theorem wk_V_70 : Cond.classLink R_V 70 "java/lang/IllegalArgumentException" ∈ bw := bw_t (i := 211) (by decide +kernel) (by decide +kernel)
theorem wn_IllegalArgumentException : Cond.instantiable "java/lang/IllegalArgumentException" 6 ∈ bw := bw_t (i := 212) (by decide +kernel) (by decide +kernel)
theorem wn_Throwable : Cond.instantiable "java/lang/Throwable" 6 ∈ bw := bw_t (i := 252) (by decide +kernel) (by decide +kernel)
theorem wm_V_74 : Cond.methodLink R_V 74 ⟨"java/lang/IllegalArgumentException", "<init>", "(Ljava/lang/String;)V"⟩ ∈ bw := bw_t (i := 255) (by decide +kernel) (by decide +kernel)
theorem wa_byte : Cond.arrayClass .byte ∈ bw := bw_t (i := 280) (by decide +kernel) (by decide +kernel)
theorem wk_V_80 : Cond.classLink R_V 80 "java/lang/UnsupportedOperationException" ∈ bw := bw_t (i := 281) (by decide +kernel) (by decide +kernel)
theorem wn_UnsupportedOperationException : Cond.instantiable "java/lang/UnsupportedOperationException" 6 ∈ bw := bw_t (i := 282) (by decide +kernel) (by decide +kernel)
theorem wm_V_84 : Cond.methodLink R_V 84 ⟨"java/lang/UnsupportedOperationException", "<init>", "(Ljava/lang/String;)V"⟩ ∈ bw := bw_t (i := 291) (by decide +kernel) (by decide +kernel)
theorem wm_V_85 : Cond.methodLink R_V 85 y_B_ofLong ∈ bw := bw_t (i := 297) (by decide +kernel) (by decide +kernel)
theorem ws_B_ofLong : Cond.static y_B_ofLong ∈ bw := bw_t (i := 298) (by decide +kernel) (by decide +kernel)
theorem wm_V_91 : Cond.methodLink R_V 91 y_P_put ∈ bw := bw_t (i := 300) (by decide +kernel) (by decide +kernel)
theorem wo_P_put : Cond.instanceMethod y_P_put ∈ bw := bw_t (i := 301) (by decide +kernel) (by decide +kernel)
theorem wz_P_put : Cond.selects R_P y_P_put y_P_put ∈ bw := bw_t (i := 302) (by decide +kernel) (by decide +kernel)
theorem wm_L_88 : Cond.methodLink R_L 88 y_L_store ∈ bw := bw_t (i := 304) (by decide +kernel) (by decide +kernel)
theorem ws_L_store : Cond.static y_L_store ∈ bw := bw_t (i := 305) (by decide +kernel) (by decide +kernel)
theorem wk_L_21 : Cond.classLink R_L 21 "java/lang/IllegalStateException" ∈ bw := bw_t (i := 307) (by decide +kernel) (by decide +kernel)
theorem wm_L_17 : Cond.methodLink R_L 17 y_V_store ∈ bw := bw_t (i := 308) (by decide +kernel) (by decide +kernel)
theorem wo_V_store : Cond.instanceMethod y_V_store ∈ bw := bw_t (i := 309) (by decide +kernel) (by decide +kernel)
theorem wz_V_store : Cond.selects R_V y_V_store y_V_store ∈ bw := bw_t (i := 310) (by decide +kernel) (by decide +kernel)
theorem wm_V_94 : Cond.methodLink R_V 94 y_V_checkFile ∈ bw := bw_t (i := 312) (by decide +kernel) (by decide +kernel)
theorem ws_V_checkFile : Cond.static y_V_checkFile ∈ bw := bw_t (i := 313) (by decide +kernel) (by decide +kernel)
theorem wk_V_97 : Cond.classLink R_V 97 "java/lang/IllegalStateException" ∈ bw := bw_t (i := 316) (by decide +kernel) (by decide +kernel)
theorem wn_IllegalStateException : Cond.instantiable "java/lang/IllegalStateException" 6 ∈ bw := bw_t (i := 317) (by decide +kernel) (by decide +kernel)
theorem wm_V_101 : Cond.methodLink R_V 101 ⟨"java/lang/IllegalStateException", "<init>", "(Ljava/lang/String;)V"⟩ ∈ bw := bw_t (i := 326) (by decide +kernel) (by decide +kernel)
theorem wm_V_102 : Cond.methodLink R_V 102 y_V_checkAllFilled ∈ bw := bw_t (i := 332) (by decide +kernel) (by decide +kernel)
theorem wo_V_checkAllFilled : Cond.instanceMethod y_V_checkAllFilled ∈ bw := bw_t (i := 334) (by decide +kernel) (by decide +kernel)
theorem wm_V_147 : Cond.methodLink R_V 147 y_V_filledBoxes ∈ bw := bw_t (i := 336) (by decide +kernel) (by decide +kernel)
theorem wo_V_filledBoxes : Cond.instanceMethod y_V_filledBoxes ∈ bw := bw_t (i := 338) (by decide +kernel) (by decide +kernel)
theorem wm_V_105 : Cond.methodLink R_V 105 y_V_checkNoneStopped ∈ bw := bw_t (i := 341) (by decide +kernel) (by decide +kernel)
theorem wo_V_checkNoneStopped : Cond.instanceMethod y_V_checkNoneStopped ∈ bw := bw_t (i := 343) (by decide +kernel) (by decide +kernel)
theorem wm_V_108 : Cond.methodLink R_V 108 y_V_takenPerByte ∈ bw := bw_t (i := 346) (by decide +kernel) (by decide +kernel)
theorem wo_V_takenPerByte : Cond.instanceMethod y_V_takenPerByte ∈ bw := bw_t (i := 348) (by decide +kernel) (by decide +kernel)
theorem wm_V_112 : Cond.methodLink R_V 112 y_V_checkPool ∈ bw := bw_t (i := 350) (by decide +kernel) (by decide +kernel)
theorem wo_V_checkPool : Cond.instanceMethod y_V_checkPool ∈ bw := bw_t (i := 352) (by decide +kernel) (by decide +kernel)
theorem wm_V_115 : Cond.methodLink R_V 115 y_J_begin ∈ bw := bw_t (i := 355) (by decide +kernel) (by decide +kernel)
theorem wo_J_begin : Cond.instanceMethod y_J_begin ∈ bw := bw_t (i := 356) (by decide +kernel) (by decide +kernel)
theorem wz_J_begin : Cond.selects R_J y_J_begin y_J_begin ∈ bw := bw_t (i := 357) (by decide +kernel) (by decide +kernel)
theorem wm_V_118 : Cond.methodLink R_V 118 y_V_slot ∈ bw := bw_t (i := 359) (by decide +kernel) (by decide +kernel)
theorem ws_V_slot : Cond.static y_V_slot ∈ bw := bw_t (i := 360) (by decide +kernel) (by decide +kernel)
theorem wm_V_121 : Cond.methodLink R_V 121 y_V_change ∈ bw := bw_t (i := 362) (by decide +kernel) (by decide +kernel)
theorem wo_V_change : Cond.instanceMethod y_V_change ∈ bw := bw_t (i := 364) (by decide +kernel) (by decide +kernel)
theorem wm_V_223 : Cond.methodLink R_V 223 y_P_take ∈ bw := bw_t (i := 366) (by decide +kernel) (by decide +kernel)
theorem wo_P_take : Cond.instanceMethod y_P_take ∈ bw := bw_t (i := 367) (by decide +kernel) (by decide +kernel)
theorem wz_P_take : Cond.selects R_P y_P_take y_P_take ∈ bw := bw_t (i := 368) (by decide +kernel) (by decide +kernel)
theorem wm_V_226 : Cond.methodLink R_V 226 y_B_valueAt ∈ bw := bw_t (i := 370) (by decide +kernel) (by decide +kernel)
theorem ws_B_valueAt : Cond.static y_B_valueAt ∈ bw := bw_t (i := 371) (by decide +kernel) (by decide +kernel)
theorem wm_B_13 : Cond.methodLink R_B 13 y_B_product ∈ bw := bw_t (i := 373) (by decide +kernel) (by decide +kernel)
theorem ws_B_product : Cond.static y_B_product ∈ bw := bw_t (i := 374) (by decide +kernel) (by decide +kernel)
theorem wm_V_230 : Cond.methodLink R_V 230 y_J_send ∈ bw := bw_t (i := 376) (by decide +kernel) (by decide +kernel)
theorem wm_V_124 : Cond.methodLink R_V 124 y_J_flip ∈ bw := bw_t (i := 377) (by decide +kernel) (by decide +kernel)
theorem wo_J_flip : Cond.instanceMethod y_J_flip ∈ bw := bw_t (i := 378) (by decide +kernel) (by decide +kernel)
theorem wz_J_flip : Cond.selects R_J y_J_flip y_J_flip ∈ bw := bw_t (i := 379) (by decide +kernel) (by decide +kernel)
theorem wm_V_128 : Cond.methodLink R_V 128 y_V_adoptFile ∈ bw := bw_t (i := 381) (by decide +kernel) (by decide +kernel)
theorem wo_V_adoptFile : Cond.instanceMethod y_V_adoptFile ∈ bw := bw_t (i := 383) (by decide +kernel) (by decide +kernel)
theorem wm_V_169 : Cond.methodLink R_V 169 y_V_adoptShares ∈ bw := bw_t (i := 385) (by decide +kernel) (by decide +kernel)
theorem wo_V_adoptShares : Cond.instanceMethod y_V_adoptShares ∈ bw := bw_t (i := 387) (by decide +kernel) (by decide +kernel)
theorem wm_V_131 : Cond.methodLink R_V 131 y_J_tidy ∈ bw := bw_t (i := 389) (by decide +kernel) (by decide +kernel)
theorem wm_L_92 : Cond.methodLink R_L 92 y_L_refresh ∈ bw := bw_t (i := 390) (by decide +kernel) (by decide +kernel)
theorem ws_L_refresh : Cond.static y_L_refresh ∈ bw := bw_t (i := 391) (by decide +kernel) (by decide +kernel)
theorem wm_L_23 : Cond.methodLink R_L 23 y_V_refresh ∈ bw := bw_t (i := 393) (by decide +kernel) (by decide +kernel)
theorem wo_V_refresh : Cond.instanceMethod y_V_refresh ∈ bw := bw_t (i := 394) (by decide +kernel) (by decide +kernel)
theorem wz_V_refresh : Cond.selects R_V y_V_refresh y_V_refresh ∈ bw := bw_t (i := 395) (by decide +kernel) (by decide +kernel)
theorem wm_V_138 : Cond.methodLink R_V 138 y_V_keptBytes ∈ bw := bw_t (i := 397) (by decide +kernel) (by decide +kernel)
theorem wo_V_keptBytes : Cond.instanceMethod y_V_keptBytes ∈ bw := bw_t (i := 399) (by decide +kernel) (by decide +kernel)
theorem wm_L_96 : Cond.methodLink R_L 96 y_L_empty ∈ bw := bw_t (i := 401) (by decide +kernel) (by decide +kernel)
theorem ws_L_empty : Cond.static y_L_empty ∈ bw := bw_t (i := 402) (by decide +kernel) (by decide +kernel)
theorem wm_L_27 : Cond.methodLink R_L 27 y_V_empty ∈ bw := bw_t (i := 404) (by decide +kernel) (by decide +kernel)
theorem wo_V_empty : Cond.instanceMethod y_V_empty ∈ bw := bw_t (i := 405) (by decide +kernel) (by decide +kernel)
theorem wz_V_empty : Cond.selects R_V y_V_empty y_V_empty ∈ bw := bw_t (i := 406) (by decide +kernel) (by decide +kernel)
theorem wm_V_142 : Cond.methodLink R_V 142 y_V_checkBox ∈ bw := bw_t (i := 408) (by decide +kernel) (by decide +kernel)
theorem wo_V_checkBox : Cond.instanceMethod y_V_checkBox ∈ bw := bw_t (i := 410) (by decide +kernel) (by decide +kernel)
theorem wm_V_152 : Cond.methodLink R_V 152 y_A_fill ∈ bw := bw_t (i := 415) (by decide +kernel) (by decide +kernel)
theorem ws_A_fill : Cond.static y_A_fill ∈ bw := bw_t (i := 416) (by decide +kernel) (by decide +kernel)
theorem wm_L_100 : Cond.methodLink R_L 100 y_L_rebuild ∈ bw := bw_t (i := 418) (by decide +kernel) (by decide +kernel)
theorem ws_L_rebuild : Cond.static y_L_rebuild ∈ bw := bw_t (i := 419) (by decide +kernel) (by decide +kernel)
theorem wm_L_31 : Cond.methodLink R_L 31 y_V_rebuild ∈ bw := bw_t (i := 421) (by decide +kernel) (by decide +kernel)
theorem wo_V_rebuild : Cond.instanceMethod y_V_rebuild ∈ bw := bw_t (i := 422) (by decide +kernel) (by decide +kernel)
theorem wz_V_rebuild : Cond.selects R_V y_V_rebuild y_V_rebuild ∈ bw := bw_t (i := 423) (by decide +kernel) (by decide +kernel)
theorem wm_V_160 : Cond.methodLink R_V 160 y_V_chooseHelpers ∈ bw := bw_t (i := 426) (by decide +kernel) (by decide +kernel)
theorem wo_V_chooseHelpers : Cond.instanceMethod y_V_chooseHelpers ∈ bw := bw_t (i := 428) (by decide +kernel) (by decide +kernel)
theorem wm_V_262 : Cond.methodLink R_V 262 y_H_choose ∈ bw := bw_t (i := 430) (by decide +kernel) (by decide +kernel)
theorem wo_H_choose : Cond.instanceMethod y_H_choose ∈ bw := bw_t (i := 431) (by decide +kernel) (by decide +kernel)
theorem wz_H_choose : Cond.selects R_H y_H_choose y_H_choose ∈ bw := bw_t (i := 432) (by decide +kernel) (by decide +kernel)
theorem wm_V_163 : Cond.methodLink R_V 163 y_H_weigh ∈ bw := bw_t (i := 435) (by decide +kernel) (by decide +kernel)
theorem wo_H_weigh : Cond.instanceMethod y_H_weigh ∈ bw := bw_t (i := 436) (by decide +kernel) (by decide +kernel)
theorem wz_H_weigh : Cond.selects R_H y_H_weigh y_H_weigh ∈ bw := bw_t (i := 437) (by decide +kernel) (by decide +kernel)
theorem wm_H_19 : Cond.methodLink R_H 19 y_B_product ∈ bw := bw_t (i := 439) (by decide +kernel) (by decide +kernel)
theorem wm_H_25 : Cond.methodLink R_H 25 y_B_quotient ∈ bw := bw_t (i := 440) (by decide +kernel) (by decide +kernel)
theorem ws_B_quotient : Cond.static y_B_quotient ∈ bw := bw_t (i := 441) (by decide +kernel) (by decide +kernel)
theorem wm_B_9 : Cond.methodLink R_B 9 y_B_inverse ∈ bw := bw_t (i := 443) (by decide +kernel) (by decide +kernel)
theorem ws_B_inverse : Cond.static y_B_inverse ∈ bw := bw_t (i := 444) (by decide +kernel) (by decide +kernel)
theorem wm_V_166 : Cond.methodLink R_V 166 y_V_rebuildByte ∈ bw := bw_t (i := 446) (by decide +kernel) (by decide +kernel)
theorem wo_V_rebuildByte : Cond.instanceMethod y_V_rebuildByte ∈ bw := bw_t (i := 448) (by decide +kernel) (by decide +kernel)
theorem wm_V_234 : Cond.methodLink R_V 234 y_H_clearSums ∈ bw := bw_t (i := 450) (by decide +kernel) (by decide +kernel)
theorem wo_H_clearSums : Cond.instanceMethod y_H_clearSums ∈ bw := bw_t (i := 451) (by decide +kernel) (by decide +kernel)
theorem wz_H_clearSums : Cond.selects R_H y_H_clearSums y_H_clearSums ∈ bw := bw_t (i := 452) (by decide +kernel) (by decide +kernel)
theorem wm_H_32 : Cond.methodLink R_H 32 y_A_fill ∈ bw := bw_t (i := 454) (by decide +kernel) (by decide +kernel)
theorem wm_V_237 : Cond.methodLink R_V 237 y_H_term ∈ bw := bw_t (i := 455) (by decide +kernel) (by decide +kernel)
theorem wo_H_term : Cond.instanceMethod y_H_term ∈ bw := bw_t (i := 456) (by decide +kernel) (by decide +kernel)
theorem wz_H_term : Cond.selects R_H y_H_term y_H_term ∈ bw := bw_t (i := 457) (by decide +kernel) (by decide +kernel)
theorem wm_L_104 : Cond.methodLink R_L 104 y_L_stopAfter ∈ bw := bw_t (i := 459) (by decide +kernel) (by decide +kernel)
theorem ws_L_stopAfter : Cond.static y_L_stopAfter ∈ bw := bw_t (i := 460) (by decide +kernel) (by decide +kernel)
theorem wm_L_35 : Cond.methodLink R_L 35 y_V_stopAfter ∈ bw := bw_t (i := 462) (by decide +kernel) (by decide +kernel)
theorem wo_V_stopAfter : Cond.instanceMethod y_V_stopAfter ∈ bw := bw_t (i := 463) (by decide +kernel) (by decide +kernel)
theorem wz_V_stopAfter : Cond.selects R_V y_V_stopAfter y_V_stopAfter ∈ bw := bw_t (i := 464) (by decide +kernel) (by decide +kernel)
theorem wm_L_117 : Cond.methodLink R_L 117 y_L_restore ∈ bw := bw_t (i := 467) (by decide +kernel) (by decide +kernel)
theorem ws_L_restore : Cond.static y_L_restore ∈ bw := bw_t (i := 468) (by decide +kernel) (by decide +kernel)
theorem wk_L_43 : Cond.classLink R_L 43 "java/util/NoSuchElementException" ∈ bw := bw_t (i := 470) (by decide +kernel) (by decide +kernel)
theorem wm_L_39 : Cond.methodLink R_L 39 y_V_restore ∈ bw := bw_t (i := 471) (by decide +kernel) (by decide +kernel)
theorem wo_V_restore : Cond.instanceMethod y_V_restore ∈ bw := bw_t (i := 472) (by decide +kernel) (by decide +kernel)
theorem wz_V_restore : Cond.selects R_V y_V_restore y_V_restore ∈ bw := bw_t (i := 473) (by decide +kernel) (by decide +kernel)
theorem wm_V_187 : Cond.methodLink R_V 187 y_V_checkKept ∈ bw := bw_t (i := 475) (by decide +kernel) (by decide +kernel)
theorem wo_V_checkKept : Cond.instanceMethod y_V_checkKept ∈ bw := bw_t (i := 477) (by decide +kernel) (by decide +kernel)
theorem wk_V_251 : Cond.classLink R_V 251 "java/util/NoSuchElementException" ∈ bw := bw_t (i := 479) (by decide +kernel) (by decide +kernel)
theorem wn_NoSuchElementException : Cond.instantiable "java/util/NoSuchElementException" 6 ∈ bw := bw_t (i := 480) (by decide +kernel) (by decide +kernel)
theorem wm_V_255 : Cond.methodLink R_V 255 ⟨"java/util/NoSuchElementException", "<init>", "(Ljava/lang/String;)V"⟩ ∈ bw := bw_t (i := 489) (by decide +kernel) (by decide +kernel)
theorem wm_V_190 : Cond.methodLink R_V 190 y_H_join ∈ bw := bw_t (i := 495) (by decide +kernel) (by decide +kernel)
theorem wo_H_join : Cond.instanceMethod y_H_join ∈ bw := bw_t (i := 496) (by decide +kernel) (by decide +kernel)
theorem wz_H_join : Cond.selects R_H y_H_join y_H_join ∈ bw := bw_t (i := 497) (by decide +kernel) (by decide +kernel)
theorem wm_H_28 : Cond.methodLink R_H 28 y_H_term ∈ bw := bw_t (i := 499) (by decide +kernel) (by decide +kernel)
theorem wm_L_120 : Cond.methodLink R_L 120 y_L_length ∈ bw := bw_t (i := 500) (by decide +kernel) (by decide +kernel)
theorem ws_L_length : Cond.static y_L_length ∈ bw := bw_t (i := 501) (by decide +kernel) (by decide +kernel)
theorem wm_L_45 : Cond.methodLink R_L 45 y_V_length ∈ bw := bw_t (i := 503) (by decide +kernel) (by decide +kernel)
theorem wo_V_length : Cond.instanceMethod y_V_length ∈ bw := bw_t (i := 504) (by decide +kernel) (by decide +kernel)
theorem wz_V_length : Cond.selects R_V y_V_length y_V_length ∈ bw := bw_t (i := 505) (by decide +kernel) (by decide +kernel)
theorem wm_L_123 : Cond.methodLink R_L 123 y_L_share ∈ bw := bw_t (i := 507) (by decide +kernel) (by decide +kernel)
theorem ws_L_share : Cond.static y_L_share ∈ bw := bw_t (i := 508) (by decide +kernel) (by decide +kernel)
theorem wk_L_52 : Cond.classLink R_L 52 "java/lang/IndexOutOfBoundsException" ∈ bw := bw_t (i := 510) (by decide +kernel) (by decide +kernel)
theorem wm_L_48 : Cond.methodLink R_L 48 y_V_share ∈ bw := bw_t (i := 511) (by decide +kernel) (by decide +kernel)
theorem wo_V_share : Cond.instanceMethod y_V_share ∈ bw := bw_t (i := 512) (by decide +kernel) (by decide +kernel)
theorem wz_V_share : Cond.selects R_V y_V_share y_V_share ∈ bw := bw_t (i := 513) (by decide +kernel) (by decide +kernel)
theorem wk_V_194 : Cond.classLink R_V 194 "java/lang/IndexOutOfBoundsException" ∈ bw := bw_t (i := 515) (by decide +kernel) (by decide +kernel)
theorem wn_IndexOutOfBoundsException : Cond.instantiable "java/lang/IndexOutOfBoundsException" 6 ∈ bw := bw_t (i := 516) (by decide +kernel) (by decide +kernel)
theorem wm_V_198 : Cond.methodLink R_V 198 ⟨"java/lang/IndexOutOfBoundsException", "<init>", "(Ljava/lang/String;)V"⟩ ∈ bw := bw_t (i := 525) (by decide +kernel) (by decide +kernel)
theorem wm_L_127 : Cond.methodLink R_L 127 y_L_forget ∈ bw := bw_t (i := 531) (by decide +kernel) (by decide +kernel)
theorem ws_L_forget : Cond.static y_L_forget ∈ bw := bw_t (i := 532) (by decide +kernel) (by decide +kernel)
theorem wm_L_54 : Cond.methodLink R_L 54 y_V_forget ∈ bw := bw_t (i := 534) (by decide +kernel) (by decide +kernel)
theorem wo_V_forget : Cond.instanceMethod y_V_forget ∈ bw := bw_t (i := 535) (by decide +kernel) (by decide +kernel)
theorem wz_V_forget : Cond.selects R_V y_V_forget y_V_forget ∈ bw := bw_t (i := 536) (by decide +kernel) (by decide +kernel)
theorem wm_L_130 : Cond.methodLink R_L 130 y_L_need ∈ bw := bw_t (i := 538) (by decide +kernel) (by decide +kernel)
theorem ws_L_need : Cond.static y_L_need ∈ bw := bw_t (i := 539) (by decide +kernel) (by decide +kernel)
theorem wm_L_57 : Cond.methodLink R_L 57 y_V_need ∈ bw := bw_t (i := 541) (by decide +kernel) (by decide +kernel)
theorem wo_V_need : Cond.instanceMethod y_V_need ∈ bw := bw_t (i := 542) (by decide +kernel) (by decide +kernel)
theorem wz_V_need : Cond.selects R_V y_V_need y_V_need ∈ bw := bw_t (i := 543) (by decide +kernel) (by decide +kernel)
theorem wm_L_145 : Cond.methodLink R_L 145 y_L_message ∈ bw := bw_t (i := 546) (by decide +kernel) (by decide +kernel)
theorem ws_L_message : Cond.static y_L_message ∈ bw := bw_t (i := 547) (by decide +kernel) (by decide +kernel)
theorem wm_L_60 : Cond.methodLink R_L 60 y_V_message ∈ bw := bw_t (i := 549) (by decide +kernel) (by decide +kernel)
theorem wo_V_message : Cond.instanceMethod y_V_message ∈ bw := bw_t (i := 550) (by decide +kernel) (by decide +kernel)
theorem wz_V_message : Cond.selects R_V y_V_message y_V_message ∈ bw := bw_t (i := 551) (by decide +kernel) (by decide +kernel)
theorem wm_V_213 : Cond.methodLink R_V 213 y_G_remembered ∈ bw := bw_t (i := 553) (by decide +kernel) (by decide +kernel)
theorem wo_G_remembered : Cond.instanceMethod y_G_remembered ∈ bw := bw_t (i := 554) (by decide +kernel) (by decide +kernel)
theorem wz_G_remembered : Cond.selects R_G y_G_remembered y_G_remembered ∈ bw := bw_t (i := 555) (by decide +kernel) (by decide +kernel)
theorem wm_G_17 : Cond.methodLink R_G 17 y_T_min ∈ bw := bw_t (i := 557) (by decide +kernel) (by decide +kernel)
theorem wm_V_220 : Cond.methodLink R_V 220 y_G_look ∈ bw := bw_t (i := 560) (by decide +kernel) (by decide +kernel)
theorem wo_G_look : Cond.instanceMethod y_G_look ∈ bw := bw_t (i := 561) (by decide +kernel) (by decide +kernel)
theorem wz_G_look : Cond.selects R_G y_G_look y_G_look ∈ bw := bw_t (i := 562) (by decide +kernel) (by decide +kernel)
theorem wk_L_72 : Cond.classLink R_L 72 R_M ∈ bw := bw_t (i := 564) (by decide +kernel) (by decide +kernel)
theorem wn_M : Cond.instantiable R_M 26 ∈ bw := bw_t (i := 565) (by decide +kernel) (by decide +kernel)
theorem wm_L_74 : Cond.methodLink R_L 74 y_M_init ∈ bw := bw_t (i := 566) (by decide +kernel) (by decide +kernel)
theorem wo_M_init : Cond.instanceMethod y_M_init ∈ bw := bw_t (i := 567) (by decide +kernel) (by decide +kernel)
theorem wm_M_1 : Cond.methodLink R_M 1 objectInit ∈ bw := bw_t (i := 569) (by decide +kernel) (by decide +kernel)
theorem wf_M_51 : Cond.fieldLink R_M 51 R_M "code" "I" ∈ bw := bw_t (i := 570) (by decide +kernel) (by decide +kernel)
theorem wf_M_48 : Cond.fieldLink R_M 48 R_M "k" "I" ∈ bw := bw_t (i := 571) (by decide +kernel) (by decide +kernel)
theorem wf_M_45 : Cond.fieldLink R_M 45 R_M "n" "I" ∈ bw := bw_t (i := 572) (by decide +kernel) (by decide +kernel)
theorem wf_M_58 : Cond.fieldLink R_M 58 R_M "pooled" "I" ∈ bw := bw_t (i := 573) (by decide +kernel) (by decide +kernel)
theorem wf_M_7 : Cond.fieldLink R_M 7 R_M "pool" "[I" ∈ bw := bw_t (i := 574) (by decide +kernel) (by decide +kernel)
theorem wf_M_13 : Cond.fieldLink R_M 13 R_M "taken" "[I" ∈ bw := bw_t (i := 575) (by decide +kernel) (by decide +kernel)
theorem wf_M_63 : Cond.fieldLink R_M 63 R_M "next" "I" ∈ bw := bw_t (i := 576) (by decide +kernel) (by decide +kernel)
theorem wf_M_16 : Cond.fieldLink R_M 16 R_M "lengths" "[I" ∈ bw := bw_t (i := 577) (by decide +kernel) (by decide +kernel)
theorem wf_M_19 : Cond.fieldLink R_M 19 R_M "coefficients" "[I" ∈ bw := bw_t (i := 578) (by decide +kernel) (by decide +kernel)
theorem wf_M_22 : Cond.fieldLink R_M 22 R_M "fresh" "[I" ∈ bw := bw_t (i := 579) (by decide +kernel) (by decide +kernel)
theorem wf_M_109 : Cond.fieldLink R_M 109 R_M "epoch" "I" ∈ bw := bw_t (i := 580) (by decide +kernel) (by decide +kernel)
theorem wf_M_25 : Cond.fieldLink R_M 25 R_M "emptied" "[Z" ∈ bw := bw_t (i := 581) (by decide +kernel) (by decide +kernel)
theorem wf_M_70 : Cond.fieldLink R_M 70 R_M "sent" "I" ∈ bw := bw_t (i := 582) (by decide +kernel) (by decide +kernel)
theorem wf_M_29 : Cond.fieldLink R_M 29 R_M "messages" "[I" ∈ bw := bw_t (i := 583) (by decide +kernel) (by decide +kernel)
theorem wf_M_32 : Cond.fieldLink R_M 32 R_M "left" "I" ∈ bw := bw_t (i := 584) (by decide +kernel) (by decide +kernel)
theorem wf_M_66 : Cond.fieldLink R_M 66 R_M "cut" "Z" ∈ bw := bw_t (i := 585) (by decide +kernel) (by decide +kernel)
theorem wf_M_36 : Cond.fieldLink R_M 36 R_M "wish" "I" ∈ bw := bw_t (i := 586) (by decide +kernel) (by decide +kernel)
theorem wf_M_100 : Cond.fieldLink R_M 100 R_M "job" "I" ∈ bw := bw_t (i := 587) (by decide +kernel) (by decide +kernel)
theorem wf_M_97 : Cond.fieldLink R_M 97 R_M "flipped" "Z" ∈ bw := bw_t (i := 588) (by decide +kernel) (by decide +kernel)
theorem wf_M_91 : Cond.fieldLink R_M 91 R_M "tidyFrom" "I" ∈ bw := bw_t (i := 589) (by decide +kernel) (by decide +kernel)
theorem wf_M_94 : Cond.fieldLink R_M 94 R_M "tidyTo" "I" ∈ bw := bw_t (i := 590) (by decide +kernel) (by decide +kernel)
theorem wf_M_103 : Cond.fieldLink R_M 103 R_M "file" "I" ∈ bw := bw_t (i := 591) (by decide +kernel) (by decide +kernel)
theorem wf_M_106 : Cond.fieldLink R_M 106 R_M "length" "I" ∈ bw := bw_t (i := 592) (by decide +kernel) (by decide +kernel)
theorem wf_M_85 : Cond.fieldLink R_M 85 R_M "box" "I" ∈ bw := bw_t (i := 593) (by decide +kernel) (by decide +kernel)
theorem wf_M_39 : Cond.fieldLink R_M 39 R_M "helpers" "[I" ∈ bw := bw_t (i := 594) (by decide +kernel) (by decide +kernel)
theorem wf_M_42 : Cond.fieldLink R_M 42 R_M "sums" "[I" ∈ bw := bw_t (i := 595) (by decide +kernel) (by decide +kernel)
theorem wm_L_81 : Cond.methodLink R_L 81 y_M_thrown ∈ bw := bw_t (i := 649) (by decide +kernel) (by decide +kernel)
theorem wo_M_thrown : Cond.instanceMethod y_M_thrown ∈ bw := bw_t (i := 650) (by decide +kernel) (by decide +kernel)
theorem wz_M_thrown : Cond.selects R_M y_M_thrown y_M_thrown ∈ bw := bw_t (i := 651) (by decide +kernel) (by decide +kernel)
theorem wm_L_80 : Cond.methodLink R_L 80 y_M_feed ∈ bw := bw_t (i := 653) (by decide +kernel) (by decide +kernel)
theorem wo_M_feed : Cond.instanceMethod y_M_feed ∈ bw := bw_t (i := 654) (by decide +kernel) (by decide +kernel)
theorem wz_M_feed : Cond.selects R_M y_M_feed y_M_feed ∈ bw := bw_t (i := 655) (by decide +kernel) (by decide +kernel)
theorem wm_L_87 : Cond.methodLink R_L 87 y_M_pool ∈ bw := bw_t (i := 658) (by decide +kernel) (by decide +kernel)
theorem wo_M_pool : Cond.instanceMethod y_M_pool ∈ bw := bw_t (i := 659) (by decide +kernel) (by decide +kernel)
theorem wz_M_pool : Cond.selects R_M y_M_pool y_M_pool ∈ bw := bw_t (i := 660) (by decide +kernel) (by decide +kernel)
theorem wm_L_91 : Cond.methodLink R_L 91 y_M_store ∈ bw := bw_t (i := 662) (by decide +kernel) (by decide +kernel)
theorem wo_M_store : Cond.instanceMethod y_M_store ∈ bw := bw_t (i := 663) (by decide +kernel) (by decide +kernel)
theorem wz_M_store : Cond.selects R_M y_M_store y_M_store ∈ bw := bw_t (i := 664) (by decide +kernel) (by decide +kernel)
theorem wm_M_129 : Cond.methodLink R_M 129 y_M_isFile ∈ bw := bw_t (i := 666) (by decide +kernel) (by decide +kernel)
theorem ws_M_isFile : Cond.static y_M_isFile ∈ bw := bw_t (i := 667) (by decide +kernel) (by decide +kernel)
theorem wm_M_133 : Cond.methodLink R_M 133 y_M_filled ∈ bw := bw_t (i := 669) (by decide +kernel) (by decide +kernel)
theorem wo_M_filled : Cond.instanceMethod y_M_filled ∈ bw := bw_t (i := 671) (by decide +kernel) (by decide +kernel)
theorem wm_M_136 : Cond.methodLink R_M 136 y_M_copyFresh ∈ bw := bw_t (i := 673) (by decide +kernel) (by decide +kernel)
theorem wo_M_copyFresh : Cond.instanceMethod y_M_copyFresh ∈ bw := bw_t (i := 675) (by decide +kernel) (by decide +kernel)
theorem wm_M_139 : Cond.methodLink R_M 139 y_M_run ∈ bw := bw_t (i := 677) (by decide +kernel) (by decide +kernel)
theorem wo_M_run : Cond.instanceMethod y_M_run ∈ bw := bw_t (i := 679) (by decide +kernel) (by decide +kernel)
theorem wm_M_112 : Cond.methodLink R_M 112 y_M_take ∈ bw := bw_t (i := 681) (by decide +kernel) (by decide +kernel)
theorem wo_M_take : Cond.instanceMethod y_M_take ∈ bw := bw_t (i := 683) (by decide +kernel) (by decide +kernel)
theorem wm_M_116 : Cond.methodLink R_M 116 y_M_build ∈ bw := bw_t (i := 685) (by decide +kernel) (by decide +kernel)
theorem wo_M_build : Cond.instanceMethod y_M_build ∈ bw := bw_t (i := 687) (by decide +kernel) (by decide +kernel)
theorem wm_M_77 : Cond.methodLink R_M 77 y_M_valueAt ∈ bw := bw_t (i := 689) (by decide +kernel) (by decide +kernel)
theorem wo_M_valueAt : Cond.instanceMethod y_M_valueAt ∈ bw := bw_t (i := 691) (by decide +kernel) (by decide +kernel)
theorem wm_M_54 : Cond.methodLink R_M 54 y_M_product ∈ bw := bw_t (i := 693) (by decide +kernel) (by decide +kernel)
theorem ws_M_product : Cond.static y_M_product ∈ bw := bw_t (i := 694) (by decide +kernel) (by decide +kernel)
theorem wm_M_88 : Cond.methodLink R_M 88 y_M_quotient ∈ bw := bw_t (i := 696) (by decide +kernel) (by decide +kernel)
theorem ws_M_quotient : Cond.static y_M_quotient ∈ bw := bw_t (i := 697) (by decide +kernel) (by decide +kernel)
theorem wm_M_73 : Cond.methodLink R_M 73 y_M_nextTaken ∈ bw := bw_t (i := 699) (by decide +kernel) (by decide +kernel)
theorem wo_M_nextTaken : Cond.instanceMethod y_M_nextTaken ∈ bw := bw_t (i := 701) (by decide +kernel) (by decide +kernel)
theorem wm_M_81 : Cond.methodLink R_M 81 y_M_send ∈ bw := bw_t (i := 703) (by decide +kernel) (by decide +kernel)
theorem wo_M_send : Cond.instanceMethod y_M_send ∈ bw := bw_t (i := 705) (by decide +kernel) (by decide +kernel)
theorem wm_M_120 : Cond.methodLink R_M 120 y_M_deal ∈ bw := bw_t (i := 707) (by decide +kernel) (by decide +kernel)
theorem wo_M_deal : Cond.instanceMethod y_M_deal ∈ bw := bw_t (i := 709) (by decide +kernel) (by decide +kernel)
theorem wm_M_123 : Cond.methodLink R_M 123 y_M_flip ∈ bw := bw_t (i := 711) (by decide +kernel) (by decide +kernel)
theorem wo_M_flip : Cond.instanceMethod y_M_flip ∈ bw := bw_t (i := 713) (by decide +kernel) (by decide +kernel)
theorem wm_M_126 : Cond.methodLink R_M 126 y_M_tidy ∈ bw := bw_t (i := 715) (by decide +kernel) (by decide +kernel)
theorem wo_M_tidy : Cond.instanceMethod y_M_tidy ∈ bw := bw_t (i := 717) (by decide +kernel) (by decide +kernel)
theorem wm_L_95 : Cond.methodLink R_L 95 y_M_refresh ∈ bw := bw_t (i := 719) (by decide +kernel) (by decide +kernel)
theorem wo_M_refresh : Cond.instanceMethod y_M_refresh ∈ bw := bw_t (i := 720) (by decide +kernel) (by decide +kernel)
theorem wz_M_refresh : Cond.selects R_M y_M_refresh y_M_refresh ∈ bw := bw_t (i := 721) (by decide +kernel) (by decide +kernel)
theorem wm_M_142 : Cond.methodLink R_M 142 y_M_total ∈ bw := bw_t (i := 723) (by decide +kernel) (by decide +kernel)
theorem wo_M_total : Cond.instanceMethod y_M_total ∈ bw := bw_t (i := 725) (by decide +kernel) (by decide +kernel)
theorem wm_L_99 : Cond.methodLink R_L 99 y_M_empty ∈ bw := bw_t (i := 727) (by decide +kernel) (by decide +kernel)
theorem wo_M_empty : Cond.instanceMethod y_M_empty ∈ bw := bw_t (i := 728) (by decide +kernel) (by decide +kernel)
theorem wz_M_empty : Cond.selects R_M y_M_empty y_M_empty ∈ bw := bw_t (i := 729) (by decide +kernel) (by decide +kernel)
theorem wm_M_145 : Cond.methodLink R_M 145 y_M_isBox ∈ bw := bw_t (i := 731) (by decide +kernel) (by decide +kernel)
theorem wo_M_isBox : Cond.instanceMethod y_M_isBox ∈ bw := bw_t (i := 733) (by decide +kernel) (by decide +kernel)
theorem wm_L_103 : Cond.methodLink R_L 103 y_M_rebuild ∈ bw := bw_t (i := 735) (by decide +kernel) (by decide +kernel)
theorem wo_M_rebuild : Cond.instanceMethod y_M_rebuild ∈ bw := bw_t (i := 736) (by decide +kernel) (by decide +kernel)
theorem wz_M_rebuild : Cond.selects R_M y_M_rebuild y_M_rebuild ∈ bw := bw_t (i := 737) (by decide +kernel) (by decide +kernel)
theorem wm_M_148 : Cond.methodLink R_M 148 y_M_some ∈ bw := bw_t (i := 739) (by decide +kernel) (by decide +kernel)
theorem wo_M_some : Cond.instanceMethod y_M_some ∈ bw := bw_t (i := 741) (by decide +kernel) (by decide +kernel)
theorem wm_L_107 : Cond.methodLink R_L 107 y_M_stopAfter ∈ bw := bw_t (i := 743) (by decide +kernel) (by decide +kernel)
theorem wo_M_stopAfter : Cond.instanceMethod y_M_stopAfter ∈ bw := bw_t (i := 744) (by decide +kernel) (by decide +kernel)
theorem wz_M_stopAfter : Cond.selects R_M y_M_stopAfter y_M_stopAfter ∈ bw := bw_t (i := 745) (by decide +kernel) (by decide +kernel)
theorem wm_L_111 : Cond.methodLink R_L 111 y_M_resume ∈ bw := bw_t (i := 747) (by decide +kernel) (by decide +kernel)
theorem wo_M_resume : Cond.instanceMethod y_M_resume ∈ bw := bw_t (i := 748) (by decide +kernel) (by decide +kernel)
theorem wz_M_resume : Cond.selects R_M y_M_resume y_M_resume ∈ bw := bw_t (i := 749) (by decide +kernel) (by decide +kernel)
theorem wm_L_116 : Cond.methodLink R_L 116 y_M_stopped ∈ bw := bw_t (i := 751) (by decide +kernel) (by decide +kernel)
theorem wo_M_stopped : Cond.instanceMethod y_M_stopped ∈ bw := bw_t (i := 752) (by decide +kernel) (by decide +kernel)
theorem wz_M_stopped : Cond.selects R_M y_M_stopped y_M_stopped ∈ bw := bw_t (i := 753) (by decide +kernel) (by decide +kernel)
theorem wm_L_119 : Cond.methodLink R_L 119 y_M_restore ∈ bw := bw_t (i := 755) (by decide +kernel) (by decide +kernel)
theorem wo_M_restore : Cond.instanceMethod y_M_restore ∈ bw := bw_t (i := 756) (by decide +kernel) (by decide +kernel)
theorem wz_M_restore : Cond.selects R_M y_M_restore y_M_restore ∈ bw := bw_t (i := 757) (by decide +kernel) (by decide +kernel)
theorem wm_L_122 : Cond.methodLink R_L 122 y_M_length ∈ bw := bw_t (i := 759) (by decide +kernel) (by decide +kernel)
theorem wo_M_length : Cond.instanceMethod y_M_length ∈ bw := bw_t (i := 760) (by decide +kernel) (by decide +kernel)
theorem wz_M_length : Cond.selects R_M y_M_length y_M_length ∈ bw := bw_t (i := 761) (by decide +kernel) (by decide +kernel)
theorem wm_L_126 : Cond.methodLink R_L 126 y_M_share ∈ bw := bw_t (i := 763) (by decide +kernel) (by decide +kernel)
theorem wo_M_share : Cond.instanceMethod y_M_share ∈ bw := bw_t (i := 764) (by decide +kernel) (by decide +kernel)
theorem wz_M_share : Cond.selects R_M y_M_share y_M_share ∈ bw := bw_t (i := 765) (by decide +kernel) (by decide +kernel)
theorem wm_L_129 : Cond.methodLink R_L 129 y_M_forget ∈ bw := bw_t (i := 767) (by decide +kernel) (by decide +kernel)
theorem wo_M_forget : Cond.instanceMethod y_M_forget ∈ bw := bw_t (i := 768) (by decide +kernel) (by decide +kernel)
theorem wz_M_forget : Cond.selects R_M y_M_forget y_M_forget ∈ bw := bw_t (i := 769) (by decide +kernel) (by decide +kernel)
theorem wm_M_152 : Cond.methodLink R_M 152 y_M_kept ∈ bw := bw_t (i := 771) (by decide +kernel) (by decide +kernel)
theorem wo_M_kept : Cond.instanceMethod y_M_kept ∈ bw := bw_t (i := 773) (by decide +kernel) (by decide +kernel)
theorem wm_L_132 : Cond.methodLink R_L 132 y_M_need ∈ bw := bw_t (i := 775) (by decide +kernel) (by decide +kernel)
theorem wo_M_need : Cond.instanceMethod y_M_need ∈ bw := bw_t (i := 776) (by decide +kernel) (by decide +kernel)
theorem wz_M_need : Cond.selects R_M y_M_need y_M_need ∈ bw := bw_t (i := 777) (by decide +kernel) (by decide +kernel)
theorem wm_L_136 : Cond.methodLink R_L 136 y_M_files ∈ bw := bw_t (i := 779) (by decide +kernel) (by decide +kernel)
theorem wo_M_files : Cond.instanceMethod y_M_files ∈ bw := bw_t (i := 780) (by decide +kernel) (by decide +kernel)
theorem wz_M_files : Cond.selects R_M y_M_files y_M_files ∈ bw := bw_t (i := 781) (by decide +kernel) (by decide +kernel)
theorem wm_L_140 : Cond.methodLink R_L 140 y_M_epoch ∈ bw := bw_t (i := 783) (by decide +kernel) (by decide +kernel)
theorem wo_M_epoch : Cond.instanceMethod y_M_epoch ∈ bw := bw_t (i := 784) (by decide +kernel) (by decide +kernel)
theorem wz_M_epoch : Cond.selects R_M y_M_epoch y_M_epoch ∈ bw := bw_t (i := 785) (by decide +kernel) (by decide +kernel)
theorem wm_L_144 : Cond.methodLink R_L 144 y_M_sent ∈ bw := bw_t (i := 787) (by decide +kernel) (by decide +kernel)
theorem wo_M_sent : Cond.instanceMethod y_M_sent ∈ bw := bw_t (i := 788) (by decide +kernel) (by decide +kernel)
theorem wz_M_sent : Cond.selects R_M y_M_sent y_M_sent ∈ bw := bw_t (i := 789) (by decide +kernel) (by decide +kernel)
theorem wm_L_147 : Cond.methodLink R_L 147 y_M_message ∈ bw := bw_t (i := 791) (by decide +kernel) (by decide +kernel)
theorem wo_M_message : Cond.instanceMethod y_M_message ∈ bw := bw_t (i := 792) (by decide +kernel) (by decide +kernel)
theorem wz_M_message : Cond.selects R_M y_M_message y_M_message ∈ bw := bw_t (i := 793) (by decide +kernel) (by decide +kernel)
theorem wa_long : Cond.arrayClass .long ∈ bw := bw_t (i := 796) (by decide +kernel) (by decide +kernel)
theorem wc_V_init : Cond.code y_V_init b_V_init 4 none ∈ bw := bw_t (i := 22) (by decide +kernel) (by decide +kernel)
theorem wc_P_init : Cond.code y_P_init b_P_init 1 none ∈ bw := bw_t (i := 30) (by decide +kernel) (by decide +kernel)
theorem wc_J_init : Cond.code y_J_init b_J_init 1 none ∈ bw := bw_t (i := 48) (by decide +kernel) (by decide +kernel)
theorem wc_G_init : Cond.code y_G_init b_G_init 1 none ∈ bw := bw_t (i := 54) (by decide +kernel) (by decide +kernel)
theorem wc_T_max : Cond.code y_T_max b_T_max 2 (some .int) ∈ bw := bw_t (i := 96) (by decide +kernel) (by decide +kernel)
theorem wc_T_min : Cond.code y_T_min b_T_min 2 (some .int) ∈ bw := bw_t (i := 99) (by decide +kernel) (by decide +kernel)
theorem wc_H_init : Cond.code y_H_init b_H_init 2 none ∈ bw := bw_t (i := 104) (by decide +kernel) (by decide +kernel)
theorem wc_V_pool : Cond.code y_V_pool b_V_pool 1 (some .int) ∈ bw := bw_t (i := 158) (by decide +kernel) (by decide +kernel)
theorem wc_V_resume : Cond.code y_V_resume b_V_resume 1 (some .int) ∈ bw := bw_t (i := 162) (by decide +kernel) (by decide +kernel)
theorem wc_J_finish : Cond.code y_J_finish b_J_finish 1 none ∈ bw := bw_t (i := 166) (by decide +kernel) (by decide +kernel)
theorem wc_J_tidy : Cond.code y_J_tidy b_J_tidy 4 none ∈ bw := bw_t (i := 170) (by decide +kernel) (by decide +kernel)
theorem wc_J_send : Cond.code y_J_send b_J_send 4 (some .boolean) ∈ bw := bw_t (i := 174) (by decide +kernel) (by decide +kernel)
theorem wc_G_note : Cond.code y_G_note b_G_note 5 none ∈ bw := bw_t (i := 178) (by decide +kernel) (by decide +kernel)
theorem wc_V_stopped : Cond.code y_V_stopped b_V_stopped 1 (some .boolean) ∈ bw := bw_t (i := 182) (by decide +kernel) (by decide +kernel)
theorem wc_V_files : Cond.code y_V_files b_V_files 1 (some .int) ∈ bw := bw_t (i := 186) (by decide +kernel) (by decide +kernel)
theorem wc_V_keptFiles : Cond.code y_V_keptFiles b_V_keptFiles 3 (some .int) ∈ bw := bw_t (i := 190) (by decide +kernel) (by decide +kernel)
theorem wc_V_epoch : Cond.code y_V_epoch b_V_epoch 1 (some .int) ∈ bw := bw_t (i := 194) (by decide +kernel) (by decide +kernel)
theorem wc_V_sent : Cond.code y_V_sent b_V_sent 1 (some .int) ∈ bw := bw_t (i := 198) (by decide +kernel) (by decide +kernel)
theorem wc_L_cell : Cond.code y_L_cell b_L_cell 2 (some .int) ∈ bw := bw_t (i := 201) (by decide +kernel) (by decide +kernel)
theorem wc_V_feed : Cond.code y_V_feed b_V_feed 5 (some .int) ∈ bw := bw_t (i := 210) (by decide +kernel) (by decide +kernel)
theorem wc_B_ofLong : Cond.code y_B_ofLong b_B_ofLong 3 (some .int) ∈ bw := bw_t (i := 299) (by decide +kernel) (by decide +kernel)
theorem wc_P_put : Cond.code y_P_put b_P_put 2 none ∈ bw := bw_t (i := 303) (by decide +kernel) (by decide +kernel)
theorem wc_V_store : Cond.code y_V_store b_V_store 8 (some .int) ∈ bw := bw_t (i := 311) (by decide +kernel) (by decide +kernel)
theorem wc_V_checkFile : Cond.code y_V_checkFile b_V_checkFile 1 none ∈ bw := bw_t (i := 314) (by decide +kernel) (by decide +kernel)
theorem wc_V_checkAllFilled : Cond.code y_V_checkAllFilled b_V_checkAllFilled 1 none ∈ bw := bw_t (i := 335) (by decide +kernel) (by decide +kernel)
theorem wc_V_filledBoxes : Cond.code y_V_filledBoxes b_V_filledBoxes 3 (some .int) ∈ bw := bw_t (i := 339) (by decide +kernel) (by decide +kernel)
theorem wc_V_checkNoneStopped : Cond.code y_V_checkNoneStopped b_V_checkNoneStopped 1 none ∈ bw := bw_t (i := 344) (by decide +kernel) (by decide +kernel)
theorem wc_V_takenPerByte : Cond.code y_V_takenPerByte b_V_takenPerByte 2 (some .int) ∈ bw := bw_t (i := 349) (by decide +kernel) (by decide +kernel)
theorem wc_V_checkPool : Cond.code y_V_checkPool b_V_checkPool 2 none ∈ bw := bw_t (i := 353) (by decide +kernel) (by decide +kernel)
theorem wc_J_begin : Cond.code y_J_begin b_J_begin 1 none ∈ bw := bw_t (i := 358) (by decide +kernel) (by decide +kernel)
theorem wc_V_slot : Cond.code y_V_slot b_V_slot 2 (some .int) ∈ bw := bw_t (i := 361) (by decide +kernel) (by decide +kernel)
theorem wc_V_change : Cond.code y_V_change b_V_change 3 none ∈ bw := bw_t (i := 365) (by decide +kernel) (by decide +kernel)
theorem wc_P_take : Cond.code y_P_take b_P_take 2 (some .int) ∈ bw := bw_t (i := 369) (by decide +kernel) (by decide +kernel)
theorem wc_B_valueAt : Cond.code y_B_valueAt b_B_valueAt 4 (some .int) ∈ bw := bw_t (i := 372) (by decide +kernel) (by decide +kernel)
theorem wc_B_product : Cond.code y_B_product b_B_product 5 (some .int) ∈ bw := bw_t (i := 375) (by decide +kernel) (by decide +kernel)
theorem wc_J_flip : Cond.code y_J_flip b_J_flip 1 (some .boolean) ∈ bw := bw_t (i := 380) (by decide +kernel) (by decide +kernel)
theorem wc_V_adoptFile : Cond.code y_V_adoptFile b_V_adoptFile 3 none ∈ bw := bw_t (i := 384) (by decide +kernel) (by decide +kernel)
theorem wc_V_adoptShares : Cond.code y_V_adoptShares b_V_adoptShares 4 none ∈ bw := bw_t (i := 388) (by decide +kernel) (by decide +kernel)
theorem wc_V_refresh : Cond.code y_V_refresh b_V_refresh 5 (some .int) ∈ bw := bw_t (i := 396) (by decide +kernel) (by decide +kernel)
theorem wc_V_keptBytes : Cond.code y_V_keptBytes b_V_keptBytes 3 (some .int) ∈ bw := bw_t (i := 400) (by decide +kernel) (by decide +kernel)
theorem wc_V_empty : Cond.code y_V_empty b_V_empty 2 (some .int) ∈ bw := bw_t (i := 407) (by decide +kernel) (by decide +kernel)
theorem wc_V_checkBox : Cond.code y_V_checkBox b_V_checkBox 2 none ∈ bw := bw_t (i := 411) (by decide +kernel) (by decide +kernel)
theorem wc_A_fill : Cond.code y_A_fill b_A_fill 4 none ∈ bw := bw_t (i := 417) (by decide +kernel) (by decide +kernel)
theorem wc_V_rebuild : Cond.code y_V_rebuild b_V_rebuild 5 (some .int) ∈ bw := bw_t (i := 424) (by decide +kernel) (by decide +kernel)
theorem wc_V_chooseHelpers : Cond.code y_V_chooseHelpers b_V_chooseHelpers 2 none ∈ bw := bw_t (i := 429) (by decide +kernel) (by decide +kernel)
theorem wc_H_choose : Cond.code y_H_choose b_H_choose 5 (some .boolean) ∈ bw := bw_t (i := 433) (by decide +kernel) (by decide +kernel)
theorem wc_H_weigh : Cond.code y_H_weigh b_H_weigh 6 none ∈ bw := bw_t (i := 438) (by decide +kernel) (by decide +kernel)
theorem wc_B_quotient : Cond.code y_B_quotient b_B_quotient 2 (some .int) ∈ bw := bw_t (i := 442) (by decide +kernel) (by decide +kernel)
theorem wc_B_inverse : Cond.code y_B_inverse b_B_inverse 4 (some .int) ∈ bw := bw_t (i := 445) (by decide +kernel) (by decide +kernel)
theorem wc_V_rebuildByte : Cond.code y_V_rebuildByte b_V_rebuildByte 7 none ∈ bw := bw_t (i := 449) (by decide +kernel) (by decide +kernel)
theorem wc_H_clearSums : Cond.code y_H_clearSums b_H_clearSums 1 none ∈ bw := bw_t (i := 453) (by decide +kernel) (by decide +kernel)
theorem wc_H_term : Cond.code y_H_term b_H_term 4 (some .int) ∈ bw := bw_t (i := 458) (by decide +kernel) (by decide +kernel)
theorem wc_V_stopAfter : Cond.code y_V_stopAfter b_V_stopAfter 2 none ∈ bw := bw_t (i := 465) (by decide +kernel) (by decide +kernel)
theorem wc_V_restore : Cond.code y_V_restore b_V_restore 6 (some .long) ∈ bw := bw_t (i := 474) (by decide +kernel) (by decide +kernel)
theorem wc_V_checkKept : Cond.code y_V_checkKept b_V_checkKept 2 none ∈ bw := bw_t (i := 478) (by decide +kernel) (by decide +kernel)
theorem wc_H_join : Cond.code y_H_join b_H_join 5 (some .int) ∈ bw := bw_t (i := 498) (by decide +kernel) (by decide +kernel)
theorem wc_V_length : Cond.code y_V_length b_V_length 2 (some .int) ∈ bw := bw_t (i := 506) (by decide +kernel) (by decide +kernel)
theorem wc_V_share : Cond.code y_V_share b_V_share 4 (some .int) ∈ bw := bw_t (i := 514) (by decide +kernel) (by decide +kernel)
theorem wc_V_forget : Cond.code y_V_forget b_V_forget 2 (some .int) ∈ bw := bw_t (i := 537) (by decide +kernel) (by decide +kernel)
theorem wc_V_need : Cond.code y_V_need b_V_need 2 (some .int) ∈ bw := bw_t (i := 544) (by decide +kernel) (by decide +kernel)
theorem wc_V_message : Cond.code y_V_message b_V_message 3 (some .int) ∈ bw := bw_t (i := 552) (by decide +kernel) (by decide +kernel)
theorem wc_G_remembered : Cond.code y_G_remembered b_G_remembered 1 (some .int) ∈ bw := bw_t (i := 556) (by decide +kernel) (by decide +kernel)
theorem wc_G_look : Cond.code y_G_look b_G_look 3 (some .int) ∈ bw := bw_t (i := 563) (by decide +kernel) (by decide +kernel)
theorem wc_M_init : Cond.code y_M_init b_M_init 3 none ∈ bw := bw_t (i := 568) (by decide +kernel) (by decide +kernel)
theorem wc_M_thrown : Cond.code y_M_thrown b_M_thrown 1 (some .int) ∈ bw := bw_t (i := 652) (by decide +kernel) (by decide +kernel)
theorem wc_M_feed : Cond.code y_M_feed b_M_feed 5 (some .int) ∈ bw := bw_t (i := 656) (by decide +kernel) (by decide +kernel)
theorem wc_M_pool : Cond.code y_M_pool b_M_pool 1 (some .int) ∈ bw := bw_t (i := 661) (by decide +kernel) (by decide +kernel)
theorem wc_M_store : Cond.code y_M_store b_M_store 7 (some .int) ∈ bw := bw_t (i := 665) (by decide +kernel) (by decide +kernel)
theorem wc_M_isFile : Cond.code y_M_isFile b_M_isFile 1 (some .boolean) ∈ bw := bw_t (i := 668) (by decide +kernel) (by decide +kernel)
theorem wc_M_filled : Cond.code y_M_filled b_M_filled 3 (some .int) ∈ bw := bw_t (i := 672) (by decide +kernel) (by decide +kernel)
theorem wc_M_copyFresh : Cond.code y_M_copyFresh b_M_copyFresh 2 none ∈ bw := bw_t (i := 676) (by decide +kernel) (by decide +kernel)
theorem wc_M_run : Cond.code y_M_run b_M_run 7 (some .int) ∈ bw := bw_t (i := 680) (by decide +kernel) (by decide +kernel)
theorem wc_M_take : Cond.code y_M_take b_M_take 3 none ∈ bw := bw_t (i := 684) (by decide +kernel) (by decide +kernel)
theorem wc_M_build : Cond.code y_M_build b_M_build 8 none ∈ bw := bw_t (i := 688) (by decide +kernel) (by decide +kernel)
theorem wc_M_valueAt : Cond.code y_M_valueAt b_M_valueAt 6 (some .int) ∈ bw := bw_t (i := 692) (by decide +kernel) (by decide +kernel)
theorem wc_M_product : Cond.code y_M_product b_M_product 4 (some .int) ∈ bw := bw_t (i := 695) (by decide +kernel) (by decide +kernel)
theorem wc_M_quotient : Cond.code y_M_quotient b_M_quotient 3 (some .int) ∈ bw := bw_t (i := 698) (by decide +kernel) (by decide +kernel)
theorem wc_M_nextTaken : Cond.code y_M_nextTaken b_M_nextTaken 1 (some .int) ∈ bw := bw_t (i := 702) (by decide +kernel) (by decide +kernel)
theorem wc_M_send : Cond.code y_M_send b_M_send 5 none ∈ bw := bw_t (i := 706) (by decide +kernel) (by decide +kernel)
theorem wc_M_deal : Cond.code y_M_deal b_M_deal 5 none ∈ bw := bw_t (i := 710) (by decide +kernel) (by decide +kernel)
theorem wc_M_flip : Cond.code y_M_flip b_M_flip 2 none ∈ bw := bw_t (i := 714) (by decide +kernel) (by decide +kernel)
theorem wc_M_tidy : Cond.code y_M_tidy b_M_tidy 2 none ∈ bw := bw_t (i := 718) (by decide +kernel) (by decide +kernel)
theorem wc_M_refresh : Cond.code y_M_refresh b_M_refresh 1 (some .int) ∈ bw := bw_t (i := 722) (by decide +kernel) (by decide +kernel)
theorem wc_M_total : Cond.code y_M_total b_M_total 3 (some .int) ∈ bw := bw_t (i := 726) (by decide +kernel) (by decide +kernel)
theorem wc_M_empty : Cond.code y_M_empty b_M_empty 2 (some .int) ∈ bw := bw_t (i := 730) (by decide +kernel) (by decide +kernel)
theorem wc_M_isBox : Cond.code y_M_isBox b_M_isBox 2 (some .boolean) ∈ bw := bw_t (i := 734) (by decide +kernel) (by decide +kernel)
theorem wc_M_rebuild : Cond.code y_M_rebuild b_M_rebuild 5 (some .int) ∈ bw := bw_t (i := 738) (by decide +kernel) (by decide +kernel)
theorem wc_M_some : Cond.code y_M_some b_M_some 4 (some .int) ∈ bw := bw_t (i := 742) (by decide +kernel) (by decide +kernel)
theorem wc_M_stopAfter : Cond.code y_M_stopAfter b_M_stopAfter 2 none ∈ bw := bw_t (i := 746) (by decide +kernel) (by decide +kernel)
theorem wc_M_resume : Cond.code y_M_resume b_M_resume 1 (some .int) ∈ bw := bw_t (i := 750) (by decide +kernel) (by decide +kernel)
theorem wc_M_stopped : Cond.code y_M_stopped b_M_stopped 1 (some .boolean) ∈ bw := bw_t (i := 754) (by decide +kernel) (by decide +kernel)
theorem wc_M_restore : Cond.code y_M_restore b_M_restore 6 (some .long) ∈ bw := bw_t (i := 758) (by decide +kernel) (by decide +kernel)
theorem wc_M_length : Cond.code y_M_length b_M_length 2 (some .int) ∈ bw := bw_t (i := 762) (by decide +kernel) (by decide +kernel)
theorem wc_M_share : Cond.code y_M_share b_M_share 4 (some .int) ∈ bw := bw_t (i := 766) (by decide +kernel) (by decide +kernel)
theorem wc_M_forget : Cond.code y_M_forget b_M_forget 2 (some .int) ∈ bw := bw_t (i := 770) (by decide +kernel) (by decide +kernel)
theorem wc_M_kept : Cond.code y_M_kept b_M_kept 3 (some .int) ∈ bw := bw_t (i := 774) (by decide +kernel) (by decide +kernel)
theorem wc_M_need : Cond.code y_M_need b_M_need 2 (some .int) ∈ bw := bw_t (i := 778) (by decide +kernel) (by decide +kernel)
theorem wc_M_files : Cond.code y_M_files b_M_files 1 (some .int) ∈ bw := bw_t (i := 782) (by decide +kernel) (by decide +kernel)
theorem wc_M_epoch : Cond.code y_M_epoch b_M_epoch 1 (some .int) ∈ bw := bw_t (i := 786) (by decide +kernel) (by decide +kernel)
theorem wc_M_sent : Cond.code y_M_sent b_M_sent 1 (some .int) ∈ bw := bw_t (i := 790) (by decide +kernel) (by decide +kernel)
theorem wc_M_message : Cond.code y_M_message b_M_message 3 (some .int) ∈ bw := bw_t (i := 794) (by decide +kernel) (by decide +kernel)
theorem wz_V_keptFiles : Cond.selects R_V y_V_keptFiles y_V_keptFiles ∈ bw := bw_s (y := y_V_keptFiles) (n := 11) (i := 0) (by decide +kernel)
theorem wz_V_checkAllFilled : Cond.selects R_V y_V_checkAllFilled y_V_checkAllFilled ∈ bw := bw_s (y := y_V_checkAllFilled) (n := 11) (i := 2) (by decide +kernel)
theorem wz_V_filledBoxes : Cond.selects R_V y_V_filledBoxes y_V_filledBoxes ∈ bw := bw_s (y := y_V_filledBoxes) (n := 11) (i := 3) (by decide +kernel)
theorem wz_V_checkNoneStopped : Cond.selects R_V y_V_checkNoneStopped y_V_checkNoneStopped ∈ bw := bw_s (y := y_V_checkNoneStopped) (n := 11) (i := 4) (by decide +kernel)
theorem wz_V_takenPerByte : Cond.selects R_V y_V_takenPerByte y_V_takenPerByte ∈ bw := bw_s (y := y_V_takenPerByte) (n := 11) (i := 5) (by decide +kernel)
theorem wz_V_checkPool : Cond.selects R_V y_V_checkPool y_V_checkPool ∈ bw := bw_s (y := y_V_checkPool) (n := 11) (i := 6) (by decide +kernel)
theorem wz_V_change : Cond.selects R_V y_V_change y_V_change ∈ bw := bw_s (y := y_V_change) (n := 11) (i := 7) (by decide +kernel)
theorem wz_V_adoptFile : Cond.selects R_V y_V_adoptFile y_V_adoptFile ∈ bw := bw_s (y := y_V_adoptFile) (n := 11) (i := 8) (by decide +kernel)
theorem wz_V_adoptShares : Cond.selects R_V y_V_adoptShares y_V_adoptShares ∈ bw := bw_s (y := y_V_adoptShares) (n := 11) (i := 9) (by decide +kernel)
theorem wz_V_keptBytes : Cond.selects R_V y_V_keptBytes y_V_keptBytes ∈ bw := bw_s (y := y_V_keptBytes) (n := 11) (i := 10) (by decide +kernel)
theorem wz_V_checkBox : Cond.selects R_V y_V_checkBox y_V_checkBox ∈ bw := bw_s (y := y_V_checkBox) (n := 11) (i := 11) (by decide +kernel)
theorem wz_V_chooseHelpers : Cond.selects R_V y_V_chooseHelpers y_V_chooseHelpers ∈ bw := bw_s (y := y_V_chooseHelpers) (n := 11) (i := 12) (by decide +kernel)
theorem wz_V_rebuildByte : Cond.selects R_V y_V_rebuildByte y_V_rebuildByte ∈ bw := bw_s (y := y_V_rebuildByte) (n := 11) (i := 13) (by decide +kernel)
theorem wz_V_checkKept : Cond.selects R_V y_V_checkKept y_V_checkKept ∈ bw := bw_s (y := y_V_checkKept) (n := 11) (i := 14) (by decide +kernel)
theorem wz_M_filled : Cond.selects R_M y_M_filled y_M_filled ∈ bw := bw_s (y := y_M_filled) (n := 26) (i := 15) (by decide +kernel)
theorem wz_M_copyFresh : Cond.selects R_M y_M_copyFresh y_M_copyFresh ∈ bw := bw_s (y := y_M_copyFresh) (n := 26) (i := 16) (by decide +kernel)
theorem wz_M_run : Cond.selects R_M y_M_run y_M_run ∈ bw := bw_s (y := y_M_run) (n := 26) (i := 17) (by decide +kernel)
theorem wz_M_take : Cond.selects R_M y_M_take y_M_take ∈ bw := bw_s (y := y_M_take) (n := 26) (i := 18) (by decide +kernel)
theorem wz_M_build : Cond.selects R_M y_M_build y_M_build ∈ bw := bw_s (y := y_M_build) (n := 26) (i := 19) (by decide +kernel)
theorem wz_M_valueAt : Cond.selects R_M y_M_valueAt y_M_valueAt ∈ bw := bw_s (y := y_M_valueAt) (n := 26) (i := 20) (by decide +kernel)
theorem wz_M_nextTaken : Cond.selects R_M y_M_nextTaken y_M_nextTaken ∈ bw := bw_s (y := y_M_nextTaken) (n := 26) (i := 21) (by decide +kernel)
theorem wz_M_send : Cond.selects R_M y_M_send y_M_send ∈ bw := bw_s (y := y_M_send) (n := 26) (i := 22) (by decide +kernel)
theorem wz_M_deal : Cond.selects R_M y_M_deal y_M_deal ∈ bw := bw_s (y := y_M_deal) (n := 26) (i := 23) (by decide +kernel)
theorem wz_M_flip : Cond.selects R_M y_M_flip y_M_flip ∈ bw := bw_s (y := y_M_flip) (n := 26) (i := 24) (by decide +kernel)
theorem wz_M_tidy : Cond.selects R_M y_M_tidy y_M_tidy ∈ bw := bw_s (y := y_M_tidy) (n := 26) (i := 25) (by decide +kernel)
theorem wz_M_total : Cond.selects R_M y_M_total y_M_total ∈ bw := bw_s (y := y_M_total) (n := 26) (i := 26) (by decide +kernel)
theorem wz_M_isBox : Cond.selects R_M y_M_isBox y_M_isBox ∈ bw := bw_s (y := y_M_isBox) (n := 26) (i := 27) (by decide +kernel)
theorem wz_M_some : Cond.selects R_M y_M_some y_M_some ∈ bw := bw_s (y := y_M_some) (n := 26) (i := 28) (by decide +kernel)
theorem wz_M_kept : Cond.selects R_M y_M_kept y_M_kept ∈ bw := bw_s (y := y_M_kept) (n := 26) (i := 29) (by decide +kernel)
theorem wl_P : ∀ w ∈ u_ws R_P F_P 3, w ∈ bw := by
  intro w hw
  obtain ⟨k, hk, rfl⟩ := List.mem_map.mp hw
  have hk := List.mem_range.mp hk
  rcases Nat.lt_or_eq_of_le (Nat.le_of_lt_succ hk) with hk | rfl
  rotate_left
  · exact bw_t (i := 40) (by decide +kernel) (by decide +kernel)
  rcases Nat.lt_or_eq_of_le (Nat.le_of_lt_succ hk) with hk | rfl
  rotate_left
  · exact bw_t (i := 38) (by decide +kernel) (by decide +kernel)
  rcases Nat.lt_or_eq_of_le (Nat.le_of_lt_succ hk) with hk | rfl
  rotate_left
  · exact bw_t (i := 36) (by decide +kernel) (by decide +kernel)
  exact absurd hk (Nat.not_lt_zero k)
theorem wl_G : ∀ w ∈ u_ws R_G F_G 2, w ∈ bw := by
  intro w hw
  obtain ⟨k, hk, rfl⟩ := List.mem_map.mp hw
  have hk := List.mem_range.mp hk
  rcases Nat.lt_or_eq_of_le (Nat.le_of_lt_succ hk) with hk | rfl
  rotate_left
  · exact bw_t (i := 61) (by decide +kernel) (by decide +kernel)
  rcases Nat.lt_or_eq_of_le (Nat.le_of_lt_succ hk) with hk | rfl
  rotate_left
  · exact bw_t (i := 59) (by decide +kernel) (by decide +kernel)
  exact absurd hk (Nat.not_lt_zero k)
theorem wl_J : ∀ w ∈ u_ws R_J F_J 8, w ∈ bw := by
  intro w hw
  obtain ⟨k, hk, rfl⟩ := List.mem_map.mp hw
  have hk := List.mem_range.mp hk
  rcases Nat.lt_or_eq_of_le (Nat.le_of_lt_succ hk) with hk | rfl
  rotate_left
  · exact bw_t (i := 91) (by decide +kernel) (by decide +kernel)
  rcases Nat.lt_or_eq_of_le (Nat.le_of_lt_succ hk) with hk | rfl
  rotate_left
  · exact bw_t (i := 89) (by decide +kernel) (by decide +kernel)
  rcases Nat.lt_or_eq_of_le (Nat.le_of_lt_succ hk) with hk | rfl
  rotate_left
  · exact bw_t (i := 87) (by decide +kernel) (by decide +kernel)
  rcases Nat.lt_or_eq_of_le (Nat.le_of_lt_succ hk) with hk | rfl
  rotate_left
  · exact bw_t (i := 85) (by decide +kernel) (by decide +kernel)
  rcases Nat.lt_or_eq_of_le (Nat.le_of_lt_succ hk) with hk | rfl
  rotate_left
  · exact bw_t (i := 83) (by decide +kernel) (by decide +kernel)
  rcases Nat.lt_or_eq_of_le (Nat.le_of_lt_succ hk) with hk | rfl
  rotate_left
  · exact bw_t (i := 81) (by decide +kernel) (by decide +kernel)
  rcases Nat.lt_or_eq_of_le (Nat.le_of_lt_succ hk) with hk | rfl
  rotate_left
  · exact bw_t (i := 79) (by decide +kernel) (by decide +kernel)
  rcases Nat.lt_or_eq_of_le (Nat.le_of_lt_succ hk) with hk | rfl
  rotate_left
  · exact bw_t (i := 77) (by decide +kernel) (by decide +kernel)
  exact absurd hk (Nat.not_lt_zero k)
theorem wl_H : ∀ w ∈ u_ws R_H F_H 3, w ∈ bw := by
  intro w hw
  obtain ⟨k, hk, rfl⟩ := List.mem_map.mp hw
  have hk := List.mem_range.mp hk
  rcases Nat.lt_or_eq_of_le (Nat.le_of_lt_succ hk) with hk | rfl
  rotate_left
  · exact bw_t (i := 115) (by decide +kernel) (by decide +kernel)
  rcases Nat.lt_or_eq_of_le (Nat.le_of_lt_succ hk) with hk | rfl
  rotate_left
  · exact bw_t (i := 113) (by decide +kernel) (by decide +kernel)
  rcases Nat.lt_or_eq_of_le (Nat.le_of_lt_succ hk) with hk | rfl
  rotate_left
  · exact bw_t (i := 111) (by decide +kernel) (by decide +kernel)
  exact absurd hk (Nat.not_lt_zero k)
theorem wl_V : ∀ w ∈ u_ws R_V F_V 11, w ∈ bw := by
  intro w hw
  obtain ⟨k, hk, rfl⟩ := List.mem_map.mp hw
  have hk := List.mem_range.mp hk
  rcases Nat.lt_or_eq_of_le (Nat.le_of_lt_succ hk) with hk | rfl
  rotate_left
  · exact bw_t (i := 151) (by decide +kernel) (by decide +kernel)
  rcases Nat.lt_or_eq_of_le (Nat.le_of_lt_succ hk) with hk | rfl
  rotate_left
  · exact bw_t (i := 149) (by decide +kernel) (by decide +kernel)
  rcases Nat.lt_or_eq_of_le (Nat.le_of_lt_succ hk) with hk | rfl
  rotate_left
  · exact bw_t (i := 147) (by decide +kernel) (by decide +kernel)
  rcases Nat.lt_or_eq_of_le (Nat.le_of_lt_succ hk) with hk | rfl
  rotate_left
  · exact bw_t (i := 145) (by decide +kernel) (by decide +kernel)
  rcases Nat.lt_or_eq_of_le (Nat.le_of_lt_succ hk) with hk | rfl
  rotate_left
  · exact bw_t (i := 143) (by decide +kernel) (by decide +kernel)
  rcases Nat.lt_or_eq_of_le (Nat.le_of_lt_succ hk) with hk | rfl
  rotate_left
  · exact bw_t (i := 141) (by decide +kernel) (by decide +kernel)
  rcases Nat.lt_or_eq_of_le (Nat.le_of_lt_succ hk) with hk | rfl
  rotate_left
  · exact bw_t (i := 139) (by decide +kernel) (by decide +kernel)
  rcases Nat.lt_or_eq_of_le (Nat.le_of_lt_succ hk) with hk | rfl
  rotate_left
  · exact bw_t (i := 137) (by decide +kernel) (by decide +kernel)
  rcases Nat.lt_or_eq_of_le (Nat.le_of_lt_succ hk) with hk | rfl
  rotate_left
  · exact bw_t (i := 135) (by decide +kernel) (by decide +kernel)
  rcases Nat.lt_or_eq_of_le (Nat.le_of_lt_succ hk) with hk | rfl
  rotate_left
  · exact bw_t (i := 133) (by decide +kernel) (by decide +kernel)
  rcases Nat.lt_or_eq_of_le (Nat.le_of_lt_succ hk) with hk | rfl
  rotate_left
  · exact bw_t (i := 131) (by decide +kernel) (by decide +kernel)
  exact absurd hk (Nat.not_lt_zero k)
theorem wl_M : ∀ w ∈ u_ws R_M F_M 26, w ∈ bw := by
  intro w hw
  obtain ⟨k, hk, rfl⟩ := List.mem_map.mp hw
  have hk := List.mem_range.mp hk
  rcases Nat.lt_or_eq_of_le (Nat.le_of_lt_succ hk) with hk | rfl
  rotate_left
  · exact bw_t (i := 646) (by decide +kernel) (by decide +kernel)
  rcases Nat.lt_or_eq_of_le (Nat.le_of_lt_succ hk) with hk | rfl
  rotate_left
  · exact bw_t (i := 644) (by decide +kernel) (by decide +kernel)
  rcases Nat.lt_or_eq_of_le (Nat.le_of_lt_succ hk) with hk | rfl
  rotate_left
  · exact bw_t (i := 642) (by decide +kernel) (by decide +kernel)
  rcases Nat.lt_or_eq_of_le (Nat.le_of_lt_succ hk) with hk | rfl
  rotate_left
  · exact bw_t (i := 640) (by decide +kernel) (by decide +kernel)
  rcases Nat.lt_or_eq_of_le (Nat.le_of_lt_succ hk) with hk | rfl
  rotate_left
  · exact bw_t (i := 638) (by decide +kernel) (by decide +kernel)
  rcases Nat.lt_or_eq_of_le (Nat.le_of_lt_succ hk) with hk | rfl
  rotate_left
  · exact bw_t (i := 636) (by decide +kernel) (by decide +kernel)
  rcases Nat.lt_or_eq_of_le (Nat.le_of_lt_succ hk) with hk | rfl
  rotate_left
  · exact bw_t (i := 634) (by decide +kernel) (by decide +kernel)
  rcases Nat.lt_or_eq_of_le (Nat.le_of_lt_succ hk) with hk | rfl
  rotate_left
  · exact bw_t (i := 632) (by decide +kernel) (by decide +kernel)
  rcases Nat.lt_or_eq_of_le (Nat.le_of_lt_succ hk) with hk | rfl
  rotate_left
  · exact bw_t (i := 630) (by decide +kernel) (by decide +kernel)
  rcases Nat.lt_or_eq_of_le (Nat.le_of_lt_succ hk) with hk | rfl
  rotate_left
  · exact bw_t (i := 628) (by decide +kernel) (by decide +kernel)
  rcases Nat.lt_or_eq_of_le (Nat.le_of_lt_succ hk) with hk | rfl
  rotate_left
  · exact bw_t (i := 626) (by decide +kernel) (by decide +kernel)
  rcases Nat.lt_or_eq_of_le (Nat.le_of_lt_succ hk) with hk | rfl
  rotate_left
  · exact bw_t (i := 624) (by decide +kernel) (by decide +kernel)
  rcases Nat.lt_or_eq_of_le (Nat.le_of_lt_succ hk) with hk | rfl
  rotate_left
  · exact bw_t (i := 622) (by decide +kernel) (by decide +kernel)
  rcases Nat.lt_or_eq_of_le (Nat.le_of_lt_succ hk) with hk | rfl
  rotate_left
  · exact bw_t (i := 620) (by decide +kernel) (by decide +kernel)
  rcases Nat.lt_or_eq_of_le (Nat.le_of_lt_succ hk) with hk | rfl
  rotate_left
  · exact bw_t (i := 618) (by decide +kernel) (by decide +kernel)
  rcases Nat.lt_or_eq_of_le (Nat.le_of_lt_succ hk) with hk | rfl
  rotate_left
  · exact bw_t (i := 616) (by decide +kernel) (by decide +kernel)
  rcases Nat.lt_or_eq_of_le (Nat.le_of_lt_succ hk) with hk | rfl
  rotate_left
  · exact bw_t (i := 614) (by decide +kernel) (by decide +kernel)
  rcases Nat.lt_or_eq_of_le (Nat.le_of_lt_succ hk) with hk | rfl
  rotate_left
  · exact bw_t (i := 612) (by decide +kernel) (by decide +kernel)
  rcases Nat.lt_or_eq_of_le (Nat.le_of_lt_succ hk) with hk | rfl
  rotate_left
  · exact bw_t (i := 610) (by decide +kernel) (by decide +kernel)
  rcases Nat.lt_or_eq_of_le (Nat.le_of_lt_succ hk) with hk | rfl
  rotate_left
  · exact bw_t (i := 608) (by decide +kernel) (by decide +kernel)
  rcases Nat.lt_or_eq_of_le (Nat.le_of_lt_succ hk) with hk | rfl
  rotate_left
  · exact bw_t (i := 606) (by decide +kernel) (by decide +kernel)
  rcases Nat.lt_or_eq_of_le (Nat.le_of_lt_succ hk) with hk | rfl
  rotate_left
  · exact bw_t (i := 604) (by decide +kernel) (by decide +kernel)
  rcases Nat.lt_or_eq_of_le (Nat.le_of_lt_succ hk) with hk | rfl
  rotate_left
  · exact bw_t (i := 602) (by decide +kernel) (by decide +kernel)
  rcases Nat.lt_or_eq_of_le (Nat.le_of_lt_succ hk) with hk | rfl
  rotate_left
  · exact bw_t (i := 600) (by decide +kernel) (by decide +kernel)
  rcases Nat.lt_or_eq_of_le (Nat.le_of_lt_succ hk) with hk | rfl
  rotate_left
  · exact bw_t (i := 598) (by decide +kernel) (by decide +kernel)
  rcases Nat.lt_or_eq_of_le (Nat.le_of_lt_succ hk) with hk | rfl
  rotate_left
  · exact bw_t (i := 596) (by decide +kernel) (by decide +kernel)
  exact absurd hk (Nat.not_lt_zero k)
end
section
/-! the shape of all contracts here (sd_): a method, its arguments, the cells ws that it reaches, its answer, the cells ws' behind it (at the same addresses); how a body begins, how it ends, how it is called -/
abbrev tyL (cI cZ cQ : ClassId) : List (ClassId × FieldType) := [(cI, .int), (cZ, .boolean), (cQ, .array .int)]
def sd_P (D : va_G) (tys : List (ClassId × FieldType)) (av : List Value) (ws : va_W) (sz : Nat) : Array Value → State → Prop :=
  va_Pc av (fun U => U.heap.size = sz ∧ va_P D cls ws U.heap ∧ va_K D cls tys U ∧ va_D (fun _ => True) ws)
abbrev sd_qi (D : va_G) (r : Int32) (ws' : va_W) (A : Nat → Prop) : Array Value → State → Outcome → State → Prop := va_Qi (fun r' (_ : Unit) => r' = r) (fun _ t => va_P D cls ws' t.heap) A
abbrev sd_ql (D : va_G) (r : Int64) (ws' : va_W) (A : Nat → Prop) : Array Value → State → Outcome → State → Prop := va_Ql (fun r' (_ : Unit) => r' = r) (fun _ t => va_P D cls ws' t.heap) A
abbrev sd_qv (D : va_G) (ws' : va_W) (A : Nat → Prop) : Array Value → State → Outcome → State → Prop := va_Qv (fun _ : Unit => True) (fun _ t => va_P D cls ws' t.heap) A
/-- answers an int, a boolean -/
def sd_I (l : Launch) (D : va_G) (tys : List (ClassId × FieldType)) (y : MethodName) (cc : ByteArray) (n : Nat) (ret : FieldType) (rm : Room) (av : List Value) (ws : va_W) (r : Int32) (ws' : va_W) : Prop :=
  ∀ sz, Met l y (Cond.code y cc n (some ret) :: bw) rm (sd_P D tys av ws sz) (sd_qi D r ws' (va_A ws sz)) rm.cells rm.slots (va_A ws sz)
def sd_J (l : Launch) (D : va_G) (tys : List (ClassId × FieldType)) (y : MethodName) (cc : ByteArray) (n : Nat) (rm : Room) (av : List Value) (ws : va_W) (r : Int64) (ws' : va_W) : Prop :=
  ∀ sz, Met l y (Cond.code y cc n (some .long) :: bw) rm (sd_P D tys av ws sz) (sd_ql D r ws' (va_A ws sz)) rm.cells rm.slots (va_A ws sz)
def sd_V (l : Launch) (D : va_G) (tys : List (ClassId × FieldType)) (y : MethodName) (cc : ByteArray) (n : Nat) (rm : Room) (av : List Value) (ws : va_W) (ws' : va_W) : Prop :=
  ∀ sz, Met l y (Cond.code y cc n none :: bw) rm (sd_P D tys av ws sz) (sd_qv D ws' (va_A ws sz)) rm.cells rm.slots (va_A ws sz)
theorem sd_blind {D : va_G} {tys : List (ClassId × FieldType)} {av : List Value} {ws : va_W} {sz : Nat} : FrameBlind (sd_P D tys av ws sz) := fun a U g mk q => by
  obtain ⟨q0, q1, qP, qK, qD⟩ := q
  exact ⟨q0, q1, qP, va_K.moved (u := U) (U := U.calling g mk a) (Vm.Alike.refl U.vm) qK, qD⟩
theorem sd_pre {D : va_G} {tys : List (ClassId × FieldType)} {av : List Value} {ws : va_W} {s U : State} {H : Heap} {A : Nat → Prop} (hU : U.heap = H) (hW : s.WarmedH U.vm) (hP : va_P D cls ws H) (hK : va_K D cls tys s) (hD : va_D A ws) : sd_P D tys av ws H.size av.toArray U :=
  ⟨rfl, by rw [hU], by rw [hU]; exact hP, va_K.moved hW.alike hK, hD.weaken (fun _ _ _ _ => trivial)⟩
section SDA
variable {l : Launch} {D : va_G} {tys : List (ClassId × FieldType)} {y : MethodName} {cc : ByteArray} {n : Nat} {ret : FieldType} {rm : Room} {av : List Value} {ws ws' : va_W}
theorem sd_ofI {r : Int32} (hy : plainName y.cls = true) (hlen : (lg_sl av).length ≤ n)
    (body : ∀ (p : Program) (e : Env) (s : State) (m : MethodId) (below : List Frame) (meth : Method) (c : Code) (A : Nat → Prop) (ls : Array Slot), p.tables.exec = Jvm.exec → c.code = cc → meth.sig.returnType = some ret → c.maxLocals = n → meth.locks = false → s.vm.findClass y.cls = some m.cls → (∀ w ∈ bw, w.before av.toArray s = true) → va_K D cls tys s → va_P D cls ws s.heap → va_D A ws → (∀ q : Nat, s.heap.size ≤ q → A q) → va_S A s.heap s.heap [] → lv_has ls n (lv_args 0 av) →
      W p l e rm s m av.toArray below meth c s.heap [] 0 0 (MQ below (sd_qi D r ws' A) av.toArray s rm.cells rm.slots A) (F0 m 0 ls [])) : sd_I l D tys y cc n ret rm av ws r ws' := by
  intro sz
  refine Met.ofW (cc := cc) (maxL := n) (ret := some ret) hy rfl ?_
  intro p e s m args below meth c s₁ B hml hv
  obtain ⟨rfl, hsz, hP, hK, hD0⟩ := hv
  subst hsz
  have hts := atoms_spec (ws := Cond.code y cc n (some ret) :: bw) B.pre
  have hl := lv_entry av (n := n) hlen
  rw [lg_entry_eq]
  generalize (lg_sl av ++ List.replicate (n - (lg_sl av).length) Slot.unset).toArray = ls at hl ⊢
  exact body p e s m below meth c (va_A ws s.heap.size) ls B.exec B.bytes B.returns hml B.notSynchronized (findClass_of_methodNamed B.named) (fun w h => hts w (List.mem_cons_of_mem _ h)) hK hP (hD0.self (sz := s.heap.size)) (fun q h => Or.inr h) va_S.rf hl
theorem sd_ofJ {r : Int64} (hy : plainName y.cls = true) (hlen : (lg_sl av).length ≤ n)
    (body : ∀ (p : Program) (e : Env) (s : State) (m : MethodId) (below : List Frame) (meth : Method) (c : Code) (A : Nat → Prop) (ls : Array Slot), p.tables.exec = Jvm.exec → c.code = cc → meth.sig.returnType = some .long → c.maxLocals = n → meth.locks = false → s.vm.findClass y.cls = some m.cls → (∀ w ∈ bw, w.before av.toArray s = true) → va_K D cls tys s → va_P D cls ws s.heap → va_D A ws → (∀ q : Nat, s.heap.size ≤ q → A q) → va_S A s.heap s.heap [] → lv_has ls n (lv_args 0 av) →
      W p l e rm s m av.toArray below meth c s.heap [] 0 0 (MQ below (sd_ql D r ws' A) av.toArray s rm.cells rm.slots A) (F0 m 0 ls [])) : sd_J l D tys y cc n rm av ws r ws' := by
  intro sz
  refine Met.ofW (cc := cc) (maxL := n) (ret := some .long) hy rfl ?_
  intro p e s m args below meth c s₁ B hml hv
  obtain ⟨rfl, hsz, hP, hK, hD0⟩ := hv
  subst hsz
  have hts := atoms_spec (ws := Cond.code y cc n (some .long) :: bw) B.pre
  have hl := lv_entry av (n := n) hlen
  rw [lg_entry_eq]
  generalize (lg_sl av ++ List.replicate (n - (lg_sl av).length) Slot.unset).toArray = ls at hl ⊢
  exact body p e s m below meth c (va_A ws s.heap.size) ls B.exec B.bytes B.returns hml B.notSynchronized (findClass_of_methodNamed B.named) (fun w h => hts w (List.mem_cons_of_mem _ h)) hK hP (hD0.self (sz := s.heap.size)) (fun q h => Or.inr h) va_S.rf hl
theorem sd_ofV (hy : plainName y.cls = true) (hlen : (lg_sl av).length ≤ n)
    (body : ∀ (p : Program) (e : Env) (s : State) (m : MethodId) (below : List Frame) (meth : Method) (c : Code) (A : Nat → Prop) (ls : Array Slot), p.tables.exec = Jvm.exec → c.code = cc → meth.sig.returnType = none → c.maxLocals = n → meth.locks = false → s.vm.findClass y.cls = some m.cls → (∀ w ∈ bw, w.before av.toArray s = true) → va_K D cls tys s → va_P D cls ws s.heap → va_D A ws → (∀ q : Nat, s.heap.size ≤ q → A q) → va_S A s.heap s.heap [] → lv_has ls n (lv_args 0 av) →
      W p l e rm s m av.toArray below meth c s.heap [] 0 0 (MQ below (sd_qv D ws' A) av.toArray s rm.cells rm.slots A) (F0 m 0 ls [])) : sd_V l D tys y cc n rm av ws ws' := by
  intro sz
  refine Met.ofW (cc := cc) (maxL := n) (ret := none) hy rfl ?_
  intro p e s m args below meth c s₁ B hml hv
  obtain ⟨rfl, hsz, hP, hK, hD0⟩ := hv
  subst hsz
  have hts := atoms_spec (ws := Cond.code y cc n none :: bw) B.pre
  have hl := lv_entry av (n := n) hlen
  rw [lg_entry_eq]
  generalize (lg_sl av ++ List.replicate (n - (lg_sl av).length) Slot.unset).toArray = ls at hl ⊢
  exact body p e s m below meth c (va_A ws s.heap.size) ls B.exec B.bytes B.returns hml B.notSynchronized (findClass_of_methodNamed B.named) (fun w h => hts w (List.mem_cons_of_mem _ h)) hK hP (hD0.self (sz := s.heap.size)) (fun q h => Or.inr h) va_S.rf hl
end SDA
section SDB
variable {p : Program} {l : Launch} {e : Env} {R : Room} {s : State} {m : MethodId} {args : Array Value} {below : List Frame} {meth : Method} {c : Code} {H : Heap} {locs : List Loc} {cells slots : Nat} {Q : State → Prop}
variable {D : va_G} {tys : List (ClassId × FieldType)} {cc : ByteArray} {pc mc ms : Nat} {ls : Array Slot} {A : Nat → Prop} {ws' : va_W} {rest st0 : List Value}
theorem sd_iret (hx : p.tables.exec = Jvm.exec) (hb : c.code = cc) (hr : meth.sig.returnType = some .int) (hlk : meth.locks = false) (hP : va_P D cls ws' H) (hS : va_S A s.heap H locs) (h1 : cells ≤ mc) (h2 : slots ≤ ms) {v r : Int32} (hv : v = r) (hdg : decode cc pc = .ok (.ireturn, 1)) :
    W p l e R s m args below meth c H locs cells slots (MQ below (sd_qi D r ws' A) args s mc ms A) (F0 m pc ls [.int v]) := by
  refine W.widen (k := mc) (n := ms) h1 h2 ?_
  exact W.iret hx hb hr (fun t ht hW => ⟨⟨v, (), rfl, hv, by show va_P D cls ws' t.heap; rw [ht]; exact hP⟩, hS.F ht⟩) hS.2.2 hdg hlk
theorem sd_zret (hx : p.tables.exec = Jvm.exec) (hb : c.code = cc) (hr : meth.sig.returnType = some .boolean) (hlk : meth.locks = false) (hP : va_P D cls ws' H) (hS : va_S A s.heap H locs) (h1 : cells ≤ mc) (h2 : slots ≤ ms) {v r : Int32} (hv : v = r) (hn : narrow .boolean (.int v) = .int v) (hdg : decode cc pc = .ok (.ireturn, 1)) :
    W p l e R s m args below meth c H locs cells slots (MQ below (sd_qi D r ws' A) args s mc ms A) (F0 m pc ls [.int v]) := by
  refine W.widen (k := mc) (n := ms) h1 h2 ?_
  exact W.zret hx hb hr hn (fun t ht hW => ⟨⟨v, (), rfl, hv, by show va_P D cls ws' t.heap; rw [ht]; exact hP⟩, hS.F ht⟩) hS.2.2 hdg hlk
theorem sd_lret (hx : p.tables.exec = Jvm.exec) (hb : c.code = cc) (hr : meth.sig.returnType = some .long) (hlk : meth.locks = false) (hP : va_P D cls ws' H) (hS : va_S A s.heap H locs) (h1 : cells ≤ mc) (h2 : slots ≤ ms) {v r : Int64} (hv : v = r) (hdg : decode cc pc = .ok (.lreturn, 1)) :
    W p l e R s m args below meth c H locs cells slots (MQ below (sd_ql D r ws' A) args s mc ms A) (F0 m pc ls [.long v]) := by
  refine W.widen (k := mc) (n := ms) h1 h2 ?_
  exact W.lret hx hb hr (fun t ht hW => ⟨⟨v, (), rfl, hv, by show va_P D cls ws' t.heap; rw [ht]; exact hP⟩, hS.F ht⟩) hS.2.2 hdg hlk
theorem sd_vret (hx : p.tables.exec = Jvm.exec) (hb : c.code = cc) (hr : meth.sig.returnType = none) (hlk : meth.locks = false) (hP : va_P D cls ws' H) (hS : va_S A s.heap H locs) (h1 : cells ≤ mc) (h2 : slots ≤ ms) (hdg : decode cc pc = .ok (.return_, 1)) :
    W p l e R s m args below meth c H locs cells slots (MQ below (sd_qv D ws' A) args s mc ms A) (F0 m pc ls []) := by
  refine W.widen (k := mc) (n := ms) h1 h2 ?_
  exact W.vret hx hb hr (fun t ht hW => ⟨⟨(), rfl, trivial, by show va_P D cls ws' t.heap; rw [ht]; exact hP⟩, hS.F ht⟩) hS.2.2 hdg hlk
/-- the top of the stack by another name -/
theorem sd_top {x y : Int32} (h : x = y) (k : W p l e R s m args below meth c H locs cells slots Q (F0 m pc ls (.int y :: rest))) : W p l e R s m args below meth c H locs cells slots Q (F0 m pc ls (.int x :: rest)) := by rw [h]; exact k
theorem sd_topl {x y : Int64} (h : x = y) (k : W p l e R s m args below meth c H locs cells slots Q (F0 m pc ls (.long y :: rest))) : W p l e R s m args below meth c H locs cells slots Q (F0 m pc ls (.long x :: rest)) := by rw [h]; exact k
end SDB
/-- X, but ws at the places is -/
def wr_ : va_W → List Nat → va_W → va_W
  | X, i :: is, w :: ws => wr_ (X.set i w) is ws
  | X, _, _ => X
theorem wr_get (is : List Nat) : ∀ (X ws : va_W) (k : Nat) (q : Nat × va_E), is.length = ws.length → (wr_ X is ws)[k]? = some q → (∃ j : Nat, is[j]? = some k ∧ ws[j]? = some q) ∨ (k ∉ is ∧ X[k]? = some q) := by
  induction is with
  | nil => intro X ws k q _ h; exact Or.inr ⟨List.not_mem_nil, by simpa [wr_] using h⟩
  | cons i is ih =>
    intro X ws k q hlen h
    cases ws with
    | nil => cases hlen
    | cons w ws =>
      rcases ih (X.set i w) ws k q (by simpa using hlen) h with ⟨j, h1, h2⟩ | ⟨h1, h2⟩
      · exact Or.inl ⟨j + 1, h1, h2⟩
      · by_cases hk : i = k
        · subst hk
          rw [List.getElem?_set_self'] at h2
          cases hX : X[i]? with
          | none => rw [hX] at h2; cases h2
          | some z =>
            rw [hX] at h2
            exact Or.inl ⟨0, rfl, h2⟩
        · rw [List.getElem?_set_ne hk] at h2
          exact Or.inr ⟨fun hm => (List.mem_cons.mp hm).elim (fun e => hk e.symm) h1, h2⟩
theorem sd_addr {A : Nat → Prop} {X Y : va_W} (h : va_D A X) (he : Y.map (fun q => q.1) = X.map (fun q => q.1)) : va_D A Y := by
  have at1 : ∀ (k : Nat) (q : Nat × va_E), Y[k]? = some q → ∃ z : Nat × va_E, X[k]? = some z ∧ z.1 = q.1 := by
    intro k q hq
    have h1 : (Y.map (fun q => q.1))[k]? = some q.1 := by rw [List.getElem?_map, hq]; rfl
    rw [he, List.getElem?_map] at h1
    cases hz : X[k]? with
    | none => rw [hz] at h1; cases h1
    | some z => rw [hz] at h1; exact ⟨z, rfl, Option.some.inj h1⟩
  refine ⟨fun i j a b hi hj hab => ?_, fun k q hq => ?_⟩
  · obtain ⟨z1, e1, f1⟩ := at1 i a hi
    obtain ⟨z2, e2, f2⟩ := at1 j b hj
    exact h.1 i j z1 z2 e1 e2 (by rw [f1, f2]; exact hab)
  · obtain ⟨z, e1, f1⟩ := at1 k q hq
    rw [← f1]
    exact h.2 k z e1
/-- what came back of a call, at its places; the rest has not moved -/
theorem sd_back {D : va_G} {cl : List vw_C} {A0 : Nat → Prop} {X cx w1 : va_W} {H H1 : Heap} (hP : va_P D cl X H) (hD : va_D A0 X) (isC : List Nat) (hC : isC.map (fun i => X[i]?) = cx.map some) (hlen : isC.length = w1.length)
    (hk : ∀ q : Nat, q < H.size → ¬ va_A cx H.size q → H1[q]? = H[q]?) (hP1 : va_P D cl w1 H1) : va_P D cl (wr_ X isC w1) H1 := by
  intro k q hq
  rcases wr_get isC X w1 k q hlen hq with ⟨j, h1, h2⟩ | ⟨h1, h2⟩
  · exact hP1 j q h2
  · have hlt := (hP k q h2).lt
    refine (hP k q h2).kept (hk q.1 hlt ?_)
    rintro (⟨k9, e9, h9⟩ | h9)
    · have h3 : (cx.map some)[k9]? = some (some (q.1, e9)) := by rw [List.getElem?_map, h9]; rfl
      rw [← hC, List.getElem?_map] at h3
      cases hi : isC[k9]? with
      | none => rw [hi] at h3; cases h3
      | some i =>
        rw [hi] at h3
        have h4 : X[i]? = some (q.1, e9) := Option.some.inj h3
        have := hD.1 i k (q.1, e9) q h4 h2 rfl
        subst this
        exact h1 (List.mem_of_getElem? hi)
    · omega
section SDC
variable {p : Program} {l : Launch} {e : Env} {R : Room} {s : State} {m : MethodId} {args : Array Value} {below : List Frame} {meth : Method} {c : Code} {H : Heap} {locs : List Loc} {cells slots : Nat} {Q : State → Prop}
variable {D : va_G} {tys : List (ClassId × FieldType)} {cc cy : ByteArray} {pc nL n index : Nat} {ls : Array Slot} {A0 : Nat → Prop} {rest st0 As : List Value} {own : String} {y : MethodName} {ret : FieldType} {rm : Room} {X cx w1 : va_W} {b : Nat}
/-- the words of a call -/
def sd_w (own : String) (index : Nat) (y : MethodName) (cy : ByteArray) (n : Nat) (ret : Option FieldType) (k : Nat) : Prop :=
  Cond.code y cy n ret ∈ bw ∧ Cond.methodLink own index y ∈ bw ∧ Cond.initialized y.cls ∈ bw ∧ y.cls ≠ "java/lang/invoke/MethodHandle" ∧ y.cls ≠ "java/lang/invoke/VarHandle" ∧ (parseMethodDescriptor y.desc).map (fun d => d.parameters.length) = some k
theorem sd_cb {ret : Option FieldType} (hts : ∀ w ∈ bw, w.before args s = true) (hw : sd_w own index y cy n ret As.length) (hR : rm.frames + 1 ≤ R.frames ∧ 8 + (n + 11) + rm.locals ≤ R.locals) : CallB R s args own index y cy n ret (Cond.code y cy n ret :: bw) rm rm.cells rm.slots As.length :=
  callB_of As.length hts (bw_in hw.1) rfl rfl rfl (hts _ hw.2.2.1) (hts _ hw.2.1) hw.2.2.2 hR
theorem sd_callVI {r : Int32} (hM : sd_I l D tys y cy n ret rm (.ref b :: As) cx r w1) (hw : sd_w own index y cy n (some ret) As.length) (hwo : Cond.instanceMethod y ∈ bw) (hwz : Cond.selects y.cls y y ∈ bw)
    (hx : p.tables.exec = Jvm.exec) (hb : c.code = cc) (hml : c.maxLocals = nL) (hown : s.vm.findClass own = some m.cls) (hts : ∀ w ∈ bw, w.before args s = true) (hls : ls.size = nL)
    (hR : rm.frames + 1 ≤ R.frames ∧ 8 + (n + 11) + rm.locals ≤ R.locals) (hf : cells + rm.cells ≤ R.cells ∧ slots + rm.slots ≤ R.slots)
    (hK : va_K D cls tys s) (hP : va_P D cls X H) (hD : va_D A0 X) (hS : va_S A0 s.heap H locs) (hA : ∀ q : Nat, s.heap.size ≤ q → A0 q)
    (isC : List Nat) (hC : isC.map (fun i => X[i]?) = cx.map some) (hnd : va_nd isC = true) (hlen : isC.length = w1.length) (hadr : (wr_ X isC w1).map (fun q => q.1) = X.map (fun q => q.1))
    {q0 ci : Nat} {fs : List Value} {F : u_T} {N : Nat} (he : cx[q0]? = some (b, .inr (ci, fs))) (hc : cls[ci]? = some (y.cls, F, N))
    (hst : st0 = As.reverse ++ .ref b :: rest) (hrest : (rest.map fun v => v.category).sum ≤ 8) (hdg : decode cc pc = .ok (.invokevirtual index, 3))
    (kk : ∀ (H1 : Heap) (locs1 : List Loc), va_P D cls (wr_ X isC w1) H1 → va_D A0 (wr_ X isC w1) → va_S A0 s.heap H1 locs1 → W p l e R s m args below meth c H1 locs1 (cells + rm.cells) (slots + rm.slots) Q (F0 m (pc + 3) ls (.int r :: rest))) :
    W p l e R s m args below meth c H locs cells slots Q (F0 m pc ls st0) := by
  subst hst
  have hDc := hD.sub (ws' := cx) isC hnd hC
  have hPc : va_P D cls cx H := fun k q hk => by
    have h3 : (cx.map some)[k]? = some (some q) := by rw [List.getElem?_map, hk]; rfl
    rw [← hC, List.getElem?_map] at h3
    cases hi : isC[k]? with
    | none => rw [hi] at h3; cases h3
    | some i => rw [hi] at h3; exact hP i q (Option.some.inj h3)
  have hFc := va_free (wc := cx) hD hS hA isC hC
  refine va_calli (va_runV (As := As) (rest := rest) ⟨hx, hb, hml, hown, hts⟩ (hM H.size) ⟨sd_cb hts hw hR, hts _ hwo, hts _ hwz⟩ ⟨sd_blind, va_recv hK hPc hc he, fun U hU hW => sd_pre hU hW hPc hK hDc⟩ rfl rfl hls rfl (lv_room hrest) hdg hf) hS (fun q _ h => hFc q h) hFc (fun r' u t H1 locs1 ht hvm hpo hB hz1 hk1 hS1 => ?_)
  subst hpo
  rw [ht] at hB
  exact kk H1 locs1 (sd_back hP hD isC hC hlen hk1 hB) (sd_addr hD hadr) hS1
theorem sd_callVV (hM : sd_V l D tys y cy n rm (.ref b :: As) cx w1) (hw : sd_w own index y cy n none As.length) (hwo : Cond.instanceMethod y ∈ bw) (hwz : Cond.selects y.cls y y ∈ bw)
    (hx : p.tables.exec = Jvm.exec) (hb : c.code = cc) (hml : c.maxLocals = nL) (hown : s.vm.findClass own = some m.cls) (hts : ∀ w ∈ bw, w.before args s = true) (hls : ls.size = nL)
    (hR : rm.frames + 1 ≤ R.frames ∧ 8 + (n + 11) + rm.locals ≤ R.locals) (hf : cells + rm.cells ≤ R.cells ∧ slots + rm.slots ≤ R.slots)
    (hK : va_K D cls tys s) (hP : va_P D cls X H) (hD : va_D A0 X) (hS : va_S A0 s.heap H locs) (hA : ∀ q : Nat, s.heap.size ≤ q → A0 q)
    (isC : List Nat) (hC : isC.map (fun i => X[i]?) = cx.map some) (hnd : va_nd isC = true) (hlen : isC.length = w1.length) (hadr : (wr_ X isC w1).map (fun q => q.1) = X.map (fun q => q.1))
    {q0 ci : Nat} {fs : List Value} {F : u_T} {N : Nat} (he : cx[q0]? = some (b, .inr (ci, fs))) (hc : cls[ci]? = some (y.cls, F, N))
    (hst : st0 = As.reverse ++ .ref b :: rest) (hrest : (rest.map fun v => v.category).sum ≤ 8) (hdg : decode cc pc = .ok (.invokevirtual index, 3))
    (kk : ∀ (H1 : Heap) (locs1 : List Loc), va_P D cls (wr_ X isC w1) H1 → va_D A0 (wr_ X isC w1) → va_S A0 s.heap H1 locs1 → W p l e R s m args below meth c H1 locs1 (cells + rm.cells) (slots + rm.slots) Q (F0 m (pc + 3) ls rest)) :
    W p l e R s m args below meth c H locs cells slots Q (F0 m pc ls st0) := by
  subst hst
  have hDc := hD.sub (ws' := cx) isC hnd hC
  have hPc : va_P D cls cx H := fun k q hk => by
    have h3 : (cx.map some)[k]? = some (some q) := by rw [List.getElem?_map, hk]; rfl
    rw [← hC, List.getElem?_map] at h3
    cases hi : isC[k]? with
    | none => rw [hi] at h3; cases h3
    | some i => rw [hi] at h3; exact hP i q (Option.some.inj h3)
  have hFc := va_free (wc := cx) hD hS hA isC hC
  refine va_callv (va_runV (As := As) (rest := rest) ⟨hx, hb, hml, hown, hts⟩ (hM H.size) ⟨sd_cb hts hw hR, hts _ hwo, hts _ hwz⟩ ⟨sd_blind, va_recv hK hPc hc he, fun U hU hW => sd_pre hU hW hPc hK hDc⟩ rfl rfl hls rfl (lv_room hrest) hdg hf) hS (fun q _ h => hFc q h) hFc (fun u t H1 locs1 ht hvm hpo hB hz1 hk1 hS1 => ?_)
  rw [ht] at hB
  exact kk H1 locs1 (sd_back hP hD isC hC hlen hk1 hB) (sd_addr hD hadr) hS1
theorem sd_callSI {r : Int32} (hM : sd_I l D tys y cy n ret rm As cx r w1) (hw : sd_w own index y cy n (some ret) As.length) (hws : Cond.static y ∈ bw)
    (hx : p.tables.exec = Jvm.exec) (hb : c.code = cc) (hml : c.maxLocals = nL) (hown : s.vm.findClass own = some m.cls) (hts : ∀ w ∈ bw, w.before args s = true) (hls : ls.size = nL)
    (hR : rm.frames + 1 ≤ R.frames ∧ 8 + (n + 11) + rm.locals ≤ R.locals) (hf : cells + rm.cells ≤ R.cells ∧ slots + rm.slots ≤ R.slots)
    (hK : va_K D cls tys s) (hP : va_P D cls X H) (hD : va_D A0 X) (hS : va_S A0 s.heap H locs) (hA : ∀ q : Nat, s.heap.size ≤ q → A0 q)
    (isC : List Nat) (hC : isC.map (fun i => X[i]?) = cx.map some) (hnd : va_nd isC = true) (hlen : isC.length = w1.length) (hadr : (wr_ X isC w1).map (fun q => q.1) = X.map (fun q => q.1))
    (hst : st0 = As.reverse ++ rest) (hrest : (rest.map fun v => v.category).sum ≤ 8) (hdg : decode cc pc = .ok (.invokestatic index, 3))
    (kk : ∀ (H1 : Heap) (locs1 : List Loc), va_P D cls (wr_ X isC w1) H1 → va_D A0 (wr_ X isC w1) → va_S A0 s.heap H1 locs1 → W p l e R s m args below meth c H1 locs1 (cells + rm.cells) (slots + rm.slots) Q (F0 m (pc + 3) ls (.int r :: rest))) :
    W p l e R s m args below meth c H locs cells slots Q (F0 m pc ls st0) := by
  subst hst
  have hDc := hD.sub (ws' := cx) isC hnd hC
  have hPc : va_P D cls cx H := fun k q hk => by
    have h3 : (cx.map some)[k]? = some (some q) := by rw [List.getElem?_map, hk]; rfl
    rw [← hC, List.getElem?_map] at h3
    cases hi : isC[k]? with
    | none => rw [hi] at h3; cases h3
    | some i => rw [hi] at h3; exact hP i q (Option.some.inj h3)
  have hFc := va_free (wc := cx) hD hS hA isC hC
  refine va_calli (va_runS (As := As) (rest := rest) ⟨hx, hb, hml, hown, hts⟩ (hM H.size) ⟨sd_cb hts hw hR, hts _ hws⟩ ⟨sd_blind, fun U hU hW => sd_pre hU hW hPc hK hDc⟩ rfl rfl hls rfl (lv_room hrest) hdg hf) hS (fun q _ h => hFc q h) hFc (fun r' u t H1 locs1 ht hvm hpo hB hz1 hk1 hS1 => ?_)
  subst hpo
  rw [ht] at hB
  exact kk H1 locs1 (sd_back hP hD isC hC hlen hk1 hB) (sd_addr hD hadr) hS1
theorem sd_callSV (hM : sd_V l D tys y cy n rm As cx w1) (hw : sd_w own index y cy n none As.length) (hws : Cond.static y ∈ bw)
    (hx : p.tables.exec = Jvm.exec) (hb : c.code = cc) (hml : c.maxLocals = nL) (hown : s.vm.findClass own = some m.cls) (hts : ∀ w ∈ bw, w.before args s = true) (hls : ls.size = nL)
    (hR : rm.frames + 1 ≤ R.frames ∧ 8 + (n + 11) + rm.locals ≤ R.locals) (hf : cells + rm.cells ≤ R.cells ∧ slots + rm.slots ≤ R.slots)
    (hK : va_K D cls tys s) (hP : va_P D cls X H) (hD : va_D A0 X) (hS : va_S A0 s.heap H locs) (hA : ∀ q : Nat, s.heap.size ≤ q → A0 q)
    (isC : List Nat) (hC : isC.map (fun i => X[i]?) = cx.map some) (hnd : va_nd isC = true) (hlen : isC.length = w1.length) (hadr : (wr_ X isC w1).map (fun q => q.1) = X.map (fun q => q.1))
    (hst : st0 = As.reverse ++ rest) (hrest : (rest.map fun v => v.category).sum ≤ 8) (hdg : decode cc pc = .ok (.invokestatic index, 3))
    (kk : ∀ (H1 : Heap) (locs1 : List Loc), va_P D cls (wr_ X isC w1) H1 → va_D A0 (wr_ X isC w1) → va_S A0 s.heap H1 locs1 → W p l e R s m args below meth c H1 locs1 (cells + rm.cells) (slots + rm.slots) Q (F0 m (pc + 3) ls rest)) :
    W p l e R s m args below meth c H locs cells slots Q (F0 m pc ls st0) := by
  subst hst
  have hDc := hD.sub (ws' := cx) isC hnd hC
  have hPc : va_P D cls cx H := fun k q hk => by
    have h3 : (cx.map some)[k]? = some (some q) := by rw [List.getElem?_map, hk]; rfl
    rw [← hC, List.getElem?_map] at h3
    cases hi : isC[k]? with
    | none => rw [hi] at h3; cases h3
    | some i => rw [hi] at h3; exact hP i q (Option.some.inj h3)
  have hFc := va_free (wc := cx) hD hS hA isC hC
  refine va_callv (va_runS (As := As) (rest := rest) ⟨hx, hb, hml, hown, hts⟩ (hM H.size) ⟨sd_cb hts hw hR, hts _ hws⟩ ⟨sd_blind, fun U hU hW => sd_pre hU hW hPc hK hDc⟩ rfl rfl hls rfl (lv_room hrest) hdg hf) hS (fun q _ h => hFc q h) hFc (fun u t H1 locs1 ht hvm hpo hB hz1 hk1 hS1 => ?_)
  rw [ht] at hB
  exact kk H1 locs1 (sd_back hP hD isC hC hlen hk1 hB) (sd_addr hD hadr) hS1
end SDC
theorem ii_1 (j : Nat) : nI j + Int32.ofInt 1 = nI (j + 1) := nI_1 j
theorem ii_m1 (j : Nat) : nI (j + 1) + Int32.ofInt (-1) = nI j := pk_m1 j
section SDD
variable {p : Program} {l : Launch} {e : Env} {R : Room} {s : State} {m : MethodId} {args : Array Value} {below : List Frame} {meth : Method} {c : Code} {H : Heap} {locs : List Loc} {cells slots : Nat} {Q : State → Prop}
variable {cc : ByteArray} {pc : Nat} {ls : Array Slot} {rest : List Value} {D : va_G} {cl : List vw_C} {A : Nat → Prop} {a : Nat} {tys : List (ClassId × FieldType)} {ws : va_W} {H0 : Heap}
/-- a[j], a[j] = x of int arrays and boolean arrays, j a number in range -/
theorem sd_iald (hx : p.tables.exec = Jvm.exec) (hb : c.code = cc) (hK : va_K D cl tys s) (hP : va_P D cl ws H) (q0 t0 : Nat) {cA : ClassId} {n : Nat} {f : Nat → Int32} (ha : ws[q0]? = some (a, .inl (cA, n, .inl f))) (ht : tys[t0]? = some (cA, .int)) {j : Nat} (hj : j < n) (hn : n < 2 ^ 31) (hdg : decode cc pc = .ok (.iaload, 1))
    (kk : W p l e R s m args below meth c H locs cells slots Q (F0 m (pc + 1) ls (.int (f j) :: rest))) : W p l e R s m args below meth c H locs cells slots Q (F0 m pc ls (.int (nI j) :: .ref a :: rest)) :=
  va_iald hx hb hK hP q0 t0 ha ht (vp_in_nI hj hn) hdg (by rw [nI_clamp (Nat.lt_trans hj hn)]; exact kk)
theorem sd_zald (hx : p.tables.exec = Jvm.exec) (hb : c.code = cc) (hK : va_K D cl tys s) (hP : va_P D cl ws H) (q0 t0 : Nat) {cA : ClassId} {n : Nat} {f : Nat → Int32} (ha : ws[q0]? = some (a, .inl (cA, n, .inl f))) (ht : tys[t0]? = some (cA, .boolean)) {j : Nat} (hj : j < n) (hn : n < 2 ^ 31) (hdg : decode cc pc = .ok (.baload, 1))
    (kk : W p l e R s m args below meth c H locs cells slots Q (F0 m (pc + 1) ls (.int (f j) :: rest))) : W p l e R s m args below meth c H locs cells slots Q (F0 m pc ls (.int (nI j) :: .ref a :: rest)) :=
  va_zald hx hb hK hP q0 t0 ha ht (vp_in_nI hj hn) hdg (by rw [nI_clamp (Nat.lt_trans hj hn)]; exact kk)
theorem sd_iast (hx : p.tables.exec = Jvm.exec) (hb : c.code = cc) (hK : va_K D cl tys s) (hP : va_P D cl ws H) (hD : va_D A ws) (hS : va_S A H0 H locs) (q0 t0 : Nat) {cA : ClassId} {n : Nat} {f : Nat → Int32} (ha : ws[q0]? = some (a, .inl (cA, n, .inl f))) (ht : tys[t0]? = some (cA, .int)) {j : Nat} {x : Int32} (hj : j < n) (hn : n < 2 ^ 31) (hdg : decode cc pc = .ok (.iastore, 1))
    (kk : ∀ (H1 : Heap) (locs1 : List Loc), va_P D cl (ws.set q0 (a, .inl (cA, n, .inl (upd f j x)))) H1 → va_D A (ws.set q0 (a, .inl (cA, n, .inl (upd f j x)))) → va_S A H0 H1 locs1 → W p l e R s m args below meth c H1 locs1 cells slots Q (F0 m (pc + 1) ls rest)) : W p l e R s m args below meth c H locs cells slots Q (F0 m pc ls (.int x :: .int (nI j) :: .ref a :: rest)) :=
  va_iast hx hb hK hP hD hS q0 t0 ha ht (vp_in_nI hj hn) hdg (by rw [nI_clamp (Nat.lt_trans hj hn)]; exact kk)
theorem sd_zast (hx : p.tables.exec = Jvm.exec) (hb : c.code = cc) (hK : va_K D cl tys s) (hP : va_P D cl ws H) (hD : va_D A ws) (hS : va_S A H0 H locs) (q0 t0 : Nat) {cA : ClassId} {n : Nat} {f : Nat → Int32} (ha : ws[q0]? = some (a, .inl (cA, n, .inl f))) (ht : tys[t0]? = some (cA, .boolean)) {j : Nat} {x : Int32} (hz : vp_nar .boolean x = x) (hj : j < n) (hn : n < 2 ^ 31) (hdg : decode cc pc = .ok (.bastore, 1))
    (kk : ∀ (H1 : Heap) (locs1 : List Loc), va_P D cl (ws.set q0 (a, .inl (cA, n, .inl (upd f j x)))) H1 → va_D A (ws.set q0 (a, .inl (cA, n, .inl (upd f j x)))) → va_S A H0 H1 locs1 → W p l e R s m args below meth c H1 locs1 cells slots Q (F0 m (pc + 1) ls rest)) : W p l e R s m args below meth c H locs cells slots Q (F0 m pc ls (.int x :: .int (nI j) :: .ref a :: rest)) :=
  va_zast hx hb hK hP hD hS q0 t0 ha ht (vp_in_nI hj hn) hdg (by rw [nI_clamp (Nat.lt_trans hj hn), hz]; exact kk)
/-- a[j] of an array of int arrays -/
theorem sd_aald (hx : p.tables.exec = Jvm.exec) (hb : c.code = cc) (hK : va_K D cl tys s) (hP : va_P D cl ws H) (q0 t0 : Nat) {cA : ClassId} {n : Nat} {f : Nat → Option Nat} (ha : ws[q0]? = some (a, .inl (cA, n, .inr (.inr (.inr (.inr f)))))) (ht : tys[t0]? = some (cA, .array .int)) {j : Nat} (hj : j < n) (hn : n < 2 ^ 31) {z : Nat} (hz : f j = some z) (hdg : decode cc pc = .ok (.aaload, 1))
    (kk : W p l e R s m args below meth c H locs cells slots Q (F0 m (pc + 1) ls (.ref z :: rest))) : W p l e R s m args below meth c H locs cells slots Q (F0 m pc ls (.int (nI j) :: .ref a :: rest)) := by
  have hlt : (nI j).toNatClampNeg < n := by rw [nI_clamp (Nat.lt_trans hj hn)]; exact hj
  refine W.aald (v := va_rf (f (nI j).toNatClampNeg)) (ty := .array .int) hx hb (hP q0 _ ha) ((hK.2 t0 _ ht).1 n (fun j => va_rf (f j))) rfl (fun q => by cases q) (by show ¬ (nI j < 0 ∨ (arrV _ _ _).slots.size ≤ _); rw [arrV_size]; exact vp_in_nI hj hn) (by show (arrV _ _ _).slots[_]? = _; rw [arrV_read _ _ hlt]) rfl rfl hdg ?_
  rw [nI_clamp (Nat.lt_trans hj hn), hz]
  exact kk
end SDD
end
section
/-! rows of the two grids (among the pooled cells); calls of methods that reach the same cells -/
abbrev rowE (cI : ClassId) (rw : Nat → Nat → Int32) : Nat → va_E := fun a => .inl (cI, 64, .inl (rw a))
theorem rowE_up (cI : ClassId) (rw : Nat → Nat → Int32) (z : Nat) (r : Nat → Int32) : va_up (rowE cI rw) z (.inl (cI, 64, .inl r)) = rowE cI (va_up rw z r) := by
  funext a
  unfold va_up
  by_cases h : a = z
  · rw [if_pos h]
    show _ = (Sum.inl (cI, 64, Sum.inl (if a = z then r else rw a)) : va_E)
    rw [if_pos h]
  · rw [if_neg h]
    show (Sum.inl (cI, 64, Sum.inl (rw a)) : va_E) = (Sum.inl (cI, 64, Sum.inl (if a = z then r else rw a)) : va_E)
    rw [if_neg h]
section SDE
variable {p : Program} {l : Launch} {e : Env} {R : Room} {s : State} {m : MethodId} {args : Array Value} {below : List Frame} {meth : Method} {c : Code} {H : Heap} {locs : List Loc} {cells slots : Nat} {Q : State → Prop}
variable {cc : ByteArray} {pc : Nat} {ls : Array Slot} {rest : List Value} {D : va_G} {cl : List vw_C} {A : Nat → Prop} {a : Nat} {tys : List (ClassId × FieldType)} {X : va_W} {H0 : Heap} {cI : ClassId} {rw : Nat → Nat → Int32} {L : List Nat}
theorem sd_rld (hx : p.tables.exec = Jvm.exec) (hb : c.code = cc) (hK : va_K D cl tys s) (hP : va_P D cl (X ++ va_pl L (rowE cI rw)) H) {z : Nat} (hz : z ∈ L) (t0 : Nat) (ht : tys[t0]? = some (cI, .int)) {j : Nat} (hj : j < 64) (hdg : decode cc pc = .ok (.iaload, 1))
    (kk : W p l e R s m args below meth c H locs cells slots Q (F0 m (pc + 1) ls (.int (rw z j) :: rest))) : W p l e R s m args below meth c H locs cells slots Q (F0 m pc ls (.int (nI j) :: .ref z :: rest)) := by
  obtain ⟨k, hk⟩ := va_pl_get (X := X) (f := rowE cI rw) hz
  exact sd_iald hx hb hK hP k t0 (n := 64) (f := rw z) hk ht hj (by omega) hdg kk
theorem sd_rst (hx : p.tables.exec = Jvm.exec) (hb : c.code = cc) (hK : va_K D cl tys s) (hP : va_P D cl (X ++ va_pl L (rowE cI rw)) H) (hD : va_D A (X ++ va_pl L (rowE cI rw))) (hS : va_S A H0 H locs) {z : Nat} (hz : z ∈ L) (t0 : Nat) (ht : tys[t0]? = some (cI, .int)) {j : Nat} {x : Int32} (hj : j < 64) (hdg : decode cc pc = .ok (.iastore, 1))
    (kk : ∀ (H1 : Heap) (locs1 : List Loc), va_P D cl (X ++ va_pl L (rowE cI (va_up rw z (upd (rw z) j x)))) H1 → va_D A (X ++ va_pl L (rowE cI (va_up rw z (upd (rw z) j x)))) → va_S A H0 H1 locs1 → W p l e R s m args below meth c H1 locs1 cells slots Q (F0 m (pc + 1) ls rest)) : W p l e R s m args below meth c H locs cells slots Q (F0 m pc ls (.int x :: .int (nI j) :: .ref z :: rest)) := by
  obtain ⟨k, hk⟩ := va_pl_get (X := X) (f := rowE cI rw) hz
  have e1 := va_pl_set (e := .inl (cI, 64, .inl (upd (rw z) j x))) hD hz hk
  rw [rowE_up] at e1
  exact sd_iast hx hb hK hP hD hS k t0 (n := 64) (f := rw z) hk ht hj (by omega) hdg (fun H1 locs1 h1 h2 h3 => kk H1 locs1 (by rw [e1] at h1; exact h1) (by rw [e1] at h2; exact h2) h3)
end SDE
section SDF
variable {p : Program} {l : Launch} {e : Env} {R : Room} {s : State} {m : MethodId} {args : Array Value} {below : List Frame} {meth : Method} {c : Code} {H : Heap} {locs : List Loc} {cells slots : Nat} {Q : State → Prop}
variable {D : va_G} {tys : List (ClassId × FieldType)} {cc cy : ByteArray} {pc nL n index : Nat} {ls : Array Slot} {A0 : Nat → Prop} {rest st0 As : List Value} {own : String} {y : MethodName} {ret : FieldType} {rm : Room} {X w1 : va_W} {b : Nat}
theorem sd_self {A0 : Nat → Prop} {H0 H : Heap} {locs : List Loc} {X : va_W} (hD : va_D A0 X) (hS : va_S A0 H0 H locs) (hA : ∀ q : Nat, H0.size ≤ q → A0 q) : ∀ q, va_A X H.size q → A0 q := by
  rintro q (⟨k, e, h⟩ | h)
  · exact hD.2 k _ h
  · exact hA q (Nat.le_trans hS.1 h)
theorem sd_allVI {r : Int32} (hM : sd_I l D tys y cy n ret rm (.ref b :: As) X r w1) (hw : sd_w own index y cy n (some ret) As.length) (hwo : Cond.instanceMethod y ∈ bw) (hwz : Cond.selects y.cls y y ∈ bw)
    (hx : p.tables.exec = Jvm.exec) (hb : c.code = cc) (hml : c.maxLocals = nL) (hown : s.vm.findClass own = some m.cls) (hts : ∀ w ∈ bw, w.before args s = true) (hls : ls.size = nL)
    (hR : rm.frames + 1 ≤ R.frames ∧ 8 + (n + 11) + rm.locals ≤ R.locals) (hf : cells + rm.cells ≤ R.cells ∧ slots + rm.slots ≤ R.slots)
    (hK : va_K D cls tys s) (hP : va_P D cls X H) (hD : va_D A0 X) (hS : va_S A0 s.heap H locs) (hA : ∀ q : Nat, s.heap.size ≤ q → A0 q)
    (hadr : w1.map (fun q => q.1) = X.map (fun q => q.1))
    {q0 ci : Nat} {fs : List Value} {F : u_T} {N : Nat} (he : X[q0]? = some (b, .inr (ci, fs))) (hc : cls[ci]? = some (y.cls, F, N))
    (hst : st0 = As.reverse ++ .ref b :: rest) (hrest : (rest.map fun v => v.category).sum ≤ 8) (hdg : decode cc pc = .ok (.invokevirtual index, 3))
    (kk : ∀ (H1 : Heap) (locs1 : List Loc), va_P D cls w1 H1 → va_D A0 w1 → va_S A0 s.heap H1 locs1 → W p l e R s m args below meth c H1 locs1 (cells + rm.cells) (slots + rm.slots) Q (F0 m (pc + 3) ls (.int r :: rest))) :
    W p l e R s m args below meth c H locs cells slots Q (F0 m pc ls st0) := by
  subst hst
  have hFc := sd_self hD hS hA
  refine va_calli (va_runV (As := As) (rest := rest) ⟨hx, hb, hml, hown, hts⟩ (hM H.size) ⟨sd_cb hts hw hR, hts _ hwo, hts _ hwz⟩ ⟨sd_blind, va_recv hK hP hc he, fun U hU hW => sd_pre hU hW hP hK hD⟩ rfl rfl hls rfl (lv_room hrest) hdg hf) hS (fun q _ h => hFc q h) hFc (fun r' u t H1 locs1 ht hvm hpo hB hz1 hk1 hS1 => ?_)
  subst hpo
  rw [ht] at hB
  exact kk H1 locs1 hB (sd_addr hD hadr) hS1
theorem sd_allVV (hM : sd_V l D tys y cy n rm (.ref b :: As) X w1) (hw : sd_w own index y cy n none As.length) (hwo : Cond.instanceMethod y ∈ bw) (hwz : Cond.selects y.cls y y ∈ bw)
    (hx : p.tables.exec = Jvm.exec) (hb : c.code = cc) (hml : c.maxLocals = nL) (hown : s.vm.findClass own = some m.cls) (hts : ∀ w ∈ bw, w.before args s = true) (hls : ls.size = nL)
    (hR : rm.frames + 1 ≤ R.frames ∧ 8 + (n + 11) + rm.locals ≤ R.locals) (hf : cells + rm.cells ≤ R.cells ∧ slots + rm.slots ≤ R.slots)
    (hK : va_K D cls tys s) (hP : va_P D cls X H) (hD : va_D A0 X) (hS : va_S A0 s.heap H locs) (hA : ∀ q : Nat, s.heap.size ≤ q → A0 q)
    (hadr : w1.map (fun q => q.1) = X.map (fun q => q.1))
    {q0 ci : Nat} {fs : List Value} {F : u_T} {N : Nat} (he : X[q0]? = some (b, .inr (ci, fs))) (hc : cls[ci]? = some (y.cls, F, N))
    (hst : st0 = As.reverse ++ .ref b :: rest) (hrest : (rest.map fun v => v.category).sum ≤ 8) (hdg : decode cc pc = .ok (.invokevirtual index, 3))
    (kk : ∀ (H1 : Heap) (locs1 : List Loc), va_P D cls w1 H1 → va_D A0 w1 → va_S A0 s.heap H1 locs1 → W p l e R s m args below meth c H1 locs1 (cells + rm.cells) (slots + rm.slots) Q (F0 m (pc + 3) ls rest)) :
    W p l e R s m args below meth c H locs cells slots Q (F0 m pc ls st0) := by
  subst hst
  have hFc := sd_self hD hS hA
  refine va_callv (va_runV (As := As) (rest := rest) ⟨hx, hb, hml, hown, hts⟩ (hM H.size) ⟨sd_cb hts hw hR, hts _ hwo, hts _ hwz⟩ ⟨sd_blind, va_recv hK hP hc he, fun U hU hW => sd_pre hU hW hP hK hD⟩ rfl rfl hls rfl (lv_room hrest) hdg hf) hS (fun q _ h => hFc q h) hFc (fun u t H1 locs1 ht hvm hpo hB hz1 hk1 hS1 => ?_)
  rw [ht] at hB
  exact kk H1 locs1 hB (sd_addr hD hadr) hS1
theorem sd_allVJ {r : Int64} (hM : sd_J l D tys y cy n rm (.ref b :: As) X r w1) (hw : sd_w own index y cy n (some .long) As.length) (hwo : Cond.instanceMethod y ∈ bw) (hwz : Cond.selects y.cls y y ∈ bw)
    (hx : p.tables.exec = Jvm.exec) (hb : c.code = cc) (hml : c.maxLocals = nL) (hown : s.vm.findClass own = some m.cls) (hts : ∀ w ∈ bw, w.before args s = true) (hls : ls.size = nL)
    (hR : rm.frames + 1 ≤ R.frames ∧ 8 + (n + 11) + rm.locals ≤ R.locals) (hf : cells + rm.cells ≤ R.cells ∧ slots + rm.slots ≤ R.slots)
    (hK : va_K D cls tys s) (hP : va_P D cls X H) (hD : va_D A0 X) (hS : va_S A0 s.heap H locs) (hA : ∀ q : Nat, s.heap.size ≤ q → A0 q)
    (hadr : w1.map (fun q => q.1) = X.map (fun q => q.1))
    {q0 ci : Nat} {fs : List Value} {F : u_T} {N : Nat} (he : X[q0]? = some (b, .inr (ci, fs))) (hc : cls[ci]? = some (y.cls, F, N))
    (hst : st0 = As.reverse ++ .ref b :: rest) (hrest : (rest.map fun v => v.category).sum ≤ 8) (hdg : decode cc pc = .ok (.invokevirtual index, 3))
    (kk : ∀ (H1 : Heap) (locs1 : List Loc), va_P D cls w1 H1 → va_D A0 w1 → va_S A0 s.heap H1 locs1 → W p l e R s m args below meth c H1 locs1 (cells + rm.cells) (slots + rm.slots) Q (F0 m (pc + 3) ls (.long r :: rest))) :
    W p l e R s m args below meth c H locs cells slots Q (F0 m pc ls st0) := by
  subst hst
  have hFc := sd_self hD hS hA
  refine va_calll (va_runV (As := As) (rest := rest) ⟨hx, hb, hml, hown, hts⟩ (hM H.size) ⟨sd_cb hts hw hR, hts _ hwo, hts _ hwz⟩ ⟨sd_blind, va_recv hK hP hc he, fun U hU hW => sd_pre hU hW hP hK hD⟩ rfl rfl hls rfl (lv_room hrest) hdg hf) hS (fun q _ h => hFc q h) hFc (fun r' u t H1 locs1 ht hvm hpo hB hz1 hk1 hS1 => ?_)
  subst hpo
  rw [ht] at hB
  exact kk H1 locs1 hB (sd_addr hD hadr) hS1
end SDF
end
section
/-! the reference's product of bytes: a long product, then the rest by the modulus, bit by bit; it is the same product -/
def iB (r : BitVec 32) : Int32 := Int32.ofBitVec r
theorem iB_bv (r : BitVec 32) : (iB r).toBitVec = r := rfl
theorem iB_bI (a : BitVec 8) : iB (a.setWidth 32) = bI a := Int32.toBitVec_inj.mp (by rw [iB_bv, bI_bv])
theorem sh_l : ∀ n, n < 32 → ((nI n &&& 31).toBitVec.smod 32).toNat = n := by decide +kernel
theorem iB_shl (a : BitVec 8) (r : BitVec 32) {j : Nat} (hj : j < 32) : iB r ^^^ (bI a <<< (nI j &&& 31)) = iB (r ^^^ (a.setWidth 32 <<< j)) := by
  apply Int32.toBitVec_inj.mp
  rw [Int32.toBitVec_xor, Int32.toBitVec_shiftLeft, bI_bv, iB_bv, iB_bv, BitVec.shiftLeft_eq', sh_l j hj]
theorem iB_shlc (c : Int32) (r : BitVec 32) {j : Nat} (hj : j < 32) : iB r ^^^ (c <<< (nI j &&& 31)) = iB (r ^^^ (c.toBitVec <<< j)) := by
  apply Int32.toBitVec_inj.mp
  rw [Int32.toBitVec_xor, Int32.toBitVec_shiftLeft, iB_bv, iB_bv, BitVec.shiftLeft_eq', sh_l j hj]
theorem bv_odd (x : BitVec 32) : x &&& 1#32 = 1#32 ↔ x.getLsbD 0 = true := by
  constructor
  · intro h
    have h1 := congrArg (fun y => BitVec.getLsbD y 0) h
    simpa using h1
  · intro h
    apply BitVec.eq_of_getLsbD_eq
    intro i hi
    rw [BitVec.getLsbD_and, BitVec.getLsbD_one]
    by_cases h0 : i = 0
    · subst h0; simp [h]
    · simp [h0]
theorem iB_bit (r : BitVec 32) {j : Nat} (hj : j < 32) : ((iB r >>> (nI j &&& 31)) &&& 1) = 1 ↔ r.getLsbD j = true := by
  rw [← Int32.toBitVec_inj, Int32.toBitVec_and, Int32.toBitVec_shiftRight, iB_bv]
  show BitVec.sshiftRight' r ((nI j &&& 31).toBitVec.smod 32) &&& 1#32 = 1#32 ↔ _
  rw [bv_odd]
  unfold BitVec.sshiftRight'
  rw [sh_l j hj, BitVec.getLsbD_sshiftRight]
  simp [hj]
def mp_1 (a b : BitVec 8) : Nat → BitVec 32
  | 0 => 0#32
  | j + 1 => if b.getLsbD j = true then mp_1 a b j ^^^ (a.setWidth 32 <<< j) else mp_1 a b j
def mp_s (n : Nat) (r : BitVec 32) : BitVec 32 := if r.getLsbD (8 + n) = true then r ^^^ (283#32 <<< n) else r
def mp_2 : Nat → BitVec 32 → BitVec 32
  | 0, r => r
  | n + 1, r => mp_2 n (mp_s n r)
theorem w_x4 {w : Nat} (a b c d : BitVec w) : (a ^^^ b) ^^^ (c ^^^ d) = (a ^^^ c) ^^^ (b ^^^ d) := by
  rw [BitVec.xor_assoc, BitVec.xor_assoc, ← BitVec.xor_assoc b c d, BitVec.xor_comm b c, BitVec.xor_assoc c b d]
theorem mp_s_l (n : Nat) (r q : BitVec 32) : mp_s n (r ^^^ q) = mp_s n r ^^^ mp_s n q := by
  unfold mp_s
  rw [BitVec.getLsbD_xor]
  cases h1 : r.getLsbD (8 + n) <;> cases h2 : q.getLsbD (8 + n) <;> simp
  · rw [BitVec.xor_assoc]
  · rw [BitVec.xor_assoc, BitVec.xor_assoc, BitVec.xor_comm q]
  · rw [w_x4 r _ q, BitVec.xor_self, BitVec.xor_zero]
theorem mp_2_l (n : Nat) : ∀ r q : BitVec 32, mp_2 n (r ^^^ q) = mp_2 n r ^^^ mp_2 n q := by
  induction n with
  | zero => intro r q; rfl
  | succ n ih =>
    intro r q
    show mp_2 n (mp_s n (r ^^^ q)) = mp_2 n (mp_s n r) ^^^ mp_2 n (mp_s n q)
    rw [mp_s_l, ih]
theorem mp_1_a (a a' b : BitVec 8) (j : Nat) : mp_1 (a ^^^ a') b j = mp_1 a b j ^^^ mp_1 a' b j := by
  induction j with
  | zero => exact BitVec.xor_zero.symm
  | succ j ih =>
    show (if b.getLsbD j = true then mp_1 (a ^^^ a') b j ^^^ ((a ^^^ a').setWidth 32 <<< j) else mp_1 (a ^^^ a') b j) = (if b.getLsbD j = true then mp_1 a b j ^^^ (a.setWidth 32 <<< j) else mp_1 a b j) ^^^ (if b.getLsbD j = true then mp_1 a' b j ^^^ (a'.setWidth 32 <<< j) else mp_1 a' b j)
    by_cases h : b.getLsbD j = true
    · rw [if_pos h, if_pos h, if_pos h, ih, BitVec.setWidth_xor, BitVec.shiftLeft_xor_distrib, w_x4]
    · rw [if_neg h, if_neg h, if_neg h, ih]
theorem mp_1_b (a b b' : BitVec 8) (j : Nat) : mp_1 a (b ^^^ b') j = mp_1 a b j ^^^ mp_1 a b' j := by
  induction j with
  | zero => exact BitVec.xor_zero.symm
  | succ j ih =>
    show (if (b ^^^ b').getLsbD j = true then mp_1 a (b ^^^ b') j ^^^ (a.setWidth 32 <<< j) else mp_1 a (b ^^^ b') j) = (if b.getLsbD j = true then mp_1 a b j ^^^ (a.setWidth 32 <<< j) else mp_1 a b j) ^^^ (if b'.getLsbD j = true then mp_1 a b' j ^^^ (a.setWidth 32 <<< j) else mp_1 a b' j)
    rw [BitVec.getLsbD_xor, ih]
    cases h1 : b.getLsbD j <;> cases h2 : b'.getLsbD j <;> simp
    · rw [BitVec.xor_assoc]
    · rw [BitVec.xor_assoc, BitVec.xor_assoc, BitVec.xor_comm (mp_1 a b' j)]
    · rw [w_x4 (mp_1 a b j) _ (mp_1 a b' j), BitVec.xor_self, BitVec.xor_zero]
theorem w_lin0 {w : Nat} {f : BitVec 8 → BitVec w} (hf : ∀ x y, f (x ^^^ y) = f x ^^^ f y) : f 0#8 = 0#w := by
  have h := hf 0#8 0#8
  rw [BitVec.xor_self, BitVec.xor_self] at h
  exact h
theorem w_lin {w : Nat} {f g : BitVec 8 → BitVec w} (hf : ∀ x y, f (x ^^^ y) = f x ^^^ f y) (hg : ∀ x y, g (x ^^^ y) = g x ^^^ g y) (h : ∀ i, i < 8 → f (1#8 <<< i) = g (1#8 <<< i)) (x : BitVec 8) : f x = g x := by
  have key : ∀ i, i < 8 → f (gf_e i x) = g (gf_e i x) := by
    intro i hi
    unfold gf_e
    by_cases hb : x.getLsbD i = true
    · rw [if_pos hb]; exact h i hi
    · rw [if_neg hb, w_lin0 hf, w_lin0 hg]
  have h1 : f (gf_E x) = g (gf_E x) := by
    unfold gf_E
    rw [hf, hf, hf, hf, hf, hf, hf, hg, hg, hg, hg, hg, hg, hg, key 0 (by omega), key 1 (by omega), key 2 (by omega), key 3 (by omega), key 4 (by omega), key 5 (by omega), key 6 (by omega), key 7 (by omega)]
  rw [gf_bits] at h1
  exact h1
set_option maxRecDepth 100000 in
theorem mp_00 : ∀ i, i < 8 → ∀ j, j < 8 → mp_2 7 (mp_1 (1#8 <<< i) (1#8 <<< j) 8) = (gf_m (1#8 <<< i) (1#8 <<< j)).setWidth 32 := by decide +kernel
theorem mp_eq (a b : BitVec 8) : mp_2 7 (mp_1 a b 8) = (gf_m a b).setWidth 32 :=
  w_lin (f := fun a => mp_2 7 (mp_1 a b 8)) (g := fun a => (gf_m a b).setWidth 32) (fun x y => by show mp_2 7 (mp_1 (x ^^^ y) b 8) = _; rw [mp_1_a, mp_2_l]) (fun x y => by show (gf_m (x ^^^ y) b).setWidth 32 = _; rw [gf_l, BitVec.setWidth_xor])
    (fun i hi => w_lin (f := fun b => mp_2 7 (mp_1 (1#8 <<< i) b 8)) (g := fun b => (gf_m (1#8 <<< i) b).setWidth 32) (fun x y => by show mp_2 7 (mp_1 _ (x ^^^ y) 8) = _; rw [mp_1_b, mp_2_l]) (fun x y => by show (gf_m _ (x ^^^ y)).setWidth 32 = _; rw [gf_r, BitVec.setWidth_xor]) (fun j hj => mp_00 i hi j hj) b) a
theorem mp_bI (a b : BitVec 8) : iB (mp_2 7 (mp_1 a b 8)) = bI (gf_m a b) := by rw [mp_eq, iB_bI]
end
section
theorem ii_sub (x : Int32) : x + Int32.ofInt (-1) = x - 1 := by rw [Int32.sub_eq_add_neg]; rfl
theorem nI_p1 {i : Nat} (hi : i < 2 ^ 31) : nI i - 1 < 0 ↔ i = 0 := by
  cases i with
  | zero => exact ⟨fun _ => rfl, fun _ => by decide⟩
  | succ k => rw [nI_pred]; exact ⟨fun h => absurd h (nI_pos (by omega)), fun h => by omega⟩
theorem ni_pred {c : Nat} (h : 0 < c) : nI c - 1 = nI (c - 1) := by
  obtain ⟨k, rfl⟩ : ∃ k, c = k + 1 := ⟨c - 1, by omega⟩
  exact nI_pred k
theorem d_B_product_0 : decode b_B_product 0 = .ok (.iconst 0, 1) := by decide +kernel
theorem d_B_product_1 : decode b_B_product 1 = .ok (.istore_n 2, 1) := by decide +kernel
theorem d_B_product_2 : decode b_B_product 2 = .ok (.iload_n 0, 1) := by decide +kernel
theorem d_B_product_3 : decode b_B_product 3 = .ok (.istore_n 3, 1) := by decide +kernel
theorem d_B_product_4 : decode b_B_product 4 = .ok (.iconst 0, 1) := by decide +kernel
theorem d_B_product_5 : decode b_B_product 5 = .ok (.istore 4, 2) := by decide +kernel
theorem d_B_product_7 : decode b_B_product 7 = .ok (.iload 4, 2) := by decide +kernel
theorem d_B_product_9 : decode b_B_product 9 = .ok (.bipush 8, 2) := by decide +kernel
theorem d_B_product_11 : decode b_B_product 11 = .ok (.if_icmp .ge 40, 3) := by decide +kernel
theorem d_B_product_14 : decode b_B_product 14 = .ok (.iload_n 1, 1) := by decide +kernel
theorem d_B_product_15 : decode b_B_product 15 = .ok (.iload 4, 2) := by decide +kernel
theorem d_B_product_17 : decode b_B_product 17 = .ok (.iushr, 1) := by decide +kernel
theorem d_B_product_18 : decode b_B_product 18 = .ok (.iconst 1, 1) := by decide +kernel
theorem d_B_product_19 : decode b_B_product 19 = .ok (.iand, 1) := by decide +kernel
theorem d_B_product_20 : decode b_B_product 20 = .ok (.iconst 1, 1) := by decide +kernel
theorem d_B_product_21 : decode b_B_product 21 = .ok (.if_icmp .ne 7, 3) := by decide +kernel
theorem d_B_product_24 : decode b_B_product 24 = .ok (.iload_n 2, 1) := by decide +kernel
theorem d_B_product_25 : decode b_B_product 25 = .ok (.iload_n 3, 1) := by decide +kernel
theorem d_B_product_26 : decode b_B_product 26 = .ok (.ixor, 1) := by decide +kernel
theorem d_B_product_27 : decode b_B_product 27 = .ok (.istore_n 2, 1) := by decide +kernel
theorem d_B_product_28 : decode b_B_product 28 = .ok (.iload_n 3, 1) := by decide +kernel
theorem d_B_product_29 : decode b_B_product 29 = .ok (.iconst 1, 1) := by decide +kernel
theorem d_B_product_30 : decode b_B_product 30 = .ok (.ishl, 1) := by decide +kernel
theorem d_B_product_31 : decode b_B_product 31 = .ok (.istore_n 3, 1) := by decide +kernel
theorem d_B_product_32 : decode b_B_product 32 = .ok (.iload_n 3, 1) := by decide +kernel
theorem d_B_product_33 : decode b_B_product 33 = .ok (.sipush 256, 3) := by decide +kernel
theorem d_B_product_36 : decode b_B_product 36 = .ok (.if_icmp .lt 9, 3) := by decide +kernel
theorem d_B_product_39 : decode b_B_product 39 = .ok (.iload_n 3, 1) := by decide +kernel
theorem d_B_product_40 : decode b_B_product 40 = .ok (.sipush 283, 3) := by decide +kernel
theorem d_B_product_43 : decode b_B_product 43 = .ok (.ixor, 1) := by decide +kernel
theorem d_B_product_44 : decode b_B_product 44 = .ok (.istore_n 3, 1) := by decide +kernel
theorem d_B_product_45 : decode b_B_product 45 = .ok (.iinc 4 1, 3) := by decide +kernel
theorem d_B_product_48 : decode b_B_product 48 = .ok (.goto (-41), 3) := by decide +kernel
theorem d_B_product_51 : decode b_B_product 51 = .ok (.iload_n 2, 1) := by decide +kernel
theorem d_B_product_52 : decode b_B_product 52 = .ok (.ireturn, 1) := by decide +kernel
theorem d_B_inverse_0 : decode b_B_inverse 0 = .ok (.iconst 1, 1) := by decide +kernel
theorem d_B_inverse_1 : decode b_B_inverse 1 = .ok (.istore_n 1, 1) := by decide +kernel
theorem d_B_inverse_2 : decode b_B_inverse 2 = .ok (.iload_n 0, 1) := by decide +kernel
theorem d_B_inverse_3 : decode b_B_inverse 3 = .ok (.istore_n 2, 1) := by decide +kernel
theorem d_B_inverse_4 : decode b_B_inverse 4 = .ok (.iconst 1, 1) := by decide +kernel
theorem d_B_inverse_5 : decode b_B_inverse 5 = .ok (.istore_n 3, 1) := by decide +kernel
theorem d_B_inverse_6 : decode b_B_inverse 6 = .ok (.iload_n 3, 1) := by decide +kernel
theorem d_B_inverse_7 : decode b_B_inverse 7 = .ok (.bipush 8, 2) := by decide +kernel
theorem d_B_inverse_9 : decode b_B_inverse 9 = .ok (.if_icmp .ge 21, 3) := by decide +kernel
theorem d_B_inverse_12 : decode b_B_inverse 12 = .ok (.iload_n 2, 1) := by decide +kernel
theorem d_B_inverse_13 : decode b_B_inverse 13 = .ok (.iload_n 2, 1) := by decide +kernel
theorem d_B_inverse_14 : decode b_B_inverse 14 = .ok (.invokestatic 13, 3) := by decide +kernel
theorem d_B_inverse_17 : decode b_B_inverse 17 = .ok (.istore_n 2, 1) := by decide +kernel
theorem d_B_inverse_18 : decode b_B_inverse 18 = .ok (.iload_n 1, 1) := by decide +kernel
theorem d_B_inverse_19 : decode b_B_inverse 19 = .ok (.iload_n 2, 1) := by decide +kernel
theorem d_B_inverse_20 : decode b_B_inverse 20 = .ok (.invokestatic 13, 3) := by decide +kernel
theorem d_B_inverse_23 : decode b_B_inverse 23 = .ok (.istore_n 1, 1) := by decide +kernel
theorem d_B_inverse_24 : decode b_B_inverse 24 = .ok (.iinc 3 1, 3) := by decide +kernel
theorem d_B_inverse_27 : decode b_B_inverse 27 = .ok (.goto (-21), 3) := by decide +kernel
theorem d_B_inverse_30 : decode b_B_inverse 30 = .ok (.iload_n 1, 1) := by decide +kernel
theorem d_B_inverse_31 : decode b_B_inverse 31 = .ok (.ireturn, 1) := by decide +kernel
theorem d_B_quotient_0 : decode b_B_quotient 0 = .ok (.iload_n 0, 1) := by decide +kernel
theorem d_B_quotient_1 : decode b_B_quotient 1 = .ok (.iload_n 1, 1) := by decide +kernel
theorem d_B_quotient_2 : decode b_B_quotient 2 = .ok (.invokestatic 9, 3) := by decide +kernel
theorem d_B_quotient_5 : decode b_B_quotient 5 = .ok (.invokestatic 13, 3) := by decide +kernel
theorem d_B_quotient_8 : decode b_B_quotient 8 = .ok (.ireturn, 1) := by decide +kernel
theorem d_B_valueAt_0 : decode b_B_valueAt 0 = .ok (.iconst 0, 1) := by decide +kernel
theorem d_B_valueAt_1 : decode b_B_valueAt 1 = .ok (.istore_n 2, 1) := by decide +kernel
theorem d_B_valueAt_2 : decode b_B_valueAt 2 = .ok (.aload_n 0, 1) := by decide +kernel
theorem d_B_valueAt_3 : decode b_B_valueAt 3 = .ok (.arraylength, 1) := by decide +kernel
theorem d_B_valueAt_4 : decode b_B_valueAt 4 = .ok (.iconst 1, 1) := by decide +kernel
theorem d_B_valueAt_5 : decode b_B_valueAt 5 = .ok (.isub, 1) := by decide +kernel
theorem d_B_valueAt_6 : decode b_B_valueAt 6 = .ok (.istore_n 3, 1) := by decide +kernel
theorem d_B_valueAt_7 : decode b_B_valueAt 7 = .ok (.iload_n 3, 1) := by decide +kernel
theorem d_B_valueAt_8 : decode b_B_valueAt 8 = .ok (.ifCond .lt 19, 3) := by decide +kernel
theorem d_B_valueAt_11 : decode b_B_valueAt 11 = .ok (.iload_n 2, 1) := by decide +kernel
theorem d_B_valueAt_12 : decode b_B_valueAt 12 = .ok (.iload_n 1, 1) := by decide +kernel
theorem d_B_valueAt_13 : decode b_B_valueAt 13 = .ok (.invokestatic 13, 3) := by decide +kernel
theorem d_B_valueAt_16 : decode b_B_valueAt 16 = .ok (.aload_n 0, 1) := by decide +kernel
theorem d_B_valueAt_17 : decode b_B_valueAt 17 = .ok (.iload_n 3, 1) := by decide +kernel
theorem d_B_valueAt_18 : decode b_B_valueAt 18 = .ok (.iaload, 1) := by decide +kernel
theorem d_B_valueAt_19 : decode b_B_valueAt 19 = .ok (.ixor, 1) := by decide +kernel
theorem d_B_valueAt_20 : decode b_B_valueAt 20 = .ok (.istore_n 2, 1) := by decide +kernel
theorem d_B_valueAt_21 : decode b_B_valueAt 21 = .ok (.iinc 3 (-1), 3) := by decide +kernel
theorem d_B_valueAt_24 : decode b_B_valueAt 24 = .ok (.goto (-17), 3) := by decide +kernel
theorem d_B_valueAt_27 : decode b_B_valueAt 27 = .ok (.iload_n 2, 1) := by decide +kernel
theorem d_B_valueAt_28 : decode b_B_valueAt 28 = .ok (.ireturn, 1) := by decide +kernel
set_option maxHeartbeats 4000000 in
set_option maxRecDepth 100000 in
/-- the product of two bytes -/
theorem c_B_product (l : Launch) (D : va_G) (cI cZ cQ : ClassId) (a : BitVec 8) (b : BitVec 8) : sd_I l D (tyL cI cZ cQ) y_B_product b_B_product 5 (.int) ({ frames := 0, cells := 0, slots := 0, locals := 0 }) [.int (bI a), .int (bI b)] [] (bI (gf_m a b)) [] := by
  refine sd_ofI (by decide) (Nat.le_of_ble_eq_true rfl) ?_
  intro p e s m below meth c A ls hx hb hr hml hlk hown hts hK hP hD hA hS hl
  have hl : lv_has ls 5 [(0, .int (bI a)), (1, .int (bI b))] := hl
  refine lv_iconst (v := 0) hx hb d_B_product_0 (by decide) ?_
  refine sd_top (y := bI 0#8) (bI_0.symm) ?_
  refine lv_istore_n hx hb d_B_product_1 rfl hl (Nat.le_of_ble_eq_true rfl) (lv' := [(2, .int (bI 0#8)), (0, .int (bI a)), (1, .int (bI b))]) rfl (fun ls hl => ?_)
  refine lv_iload_n hx hb d_B_product_2 rfl (lv_at hl 1 rfl) ?_
  refine lv_istore_n hx hb d_B_product_3 rfl hl (Nat.le_of_ble_eq_true rfl) (lv' := [(3, .int (bI a)), (2, .int (bI 0#8)), (0, .int (bI a)), (1, .int (bI b))]) rfl (fun ls hl => ?_)
  refine lv_iconst (v := 0) hx hb d_B_product_4 (by decide) ?_
  refine sd_top (y := nI 0) (rfl) ?_
  refine lv_istore hx hb d_B_product_5 hl (Nat.le_of_ble_eq_true rfl) (lv' := [(4, .int (nI 0)), (3, .int (bI a)), (2, .int (bI 0#8)), (0, .int (bI a)), (1, .int (bI b))]) rfl (fun ls hl => ?_)
  have hl := lv_sub hl (l' := [(0, .int (bI a)), (1, .int (bI b)), (2, .int (bI 0#8)), (3, .int (bI a)), (4, .int (nI 0))]) [3, 4, 2, 1, 0] rfl
  have loop7 : ∀ (d : Nat) (j : Nat) (u : BitVec 8) (t : BitVec 8) (ls : Array Slot) (H : Heap) (locs : List Loc), 8 - j = d → (j ≤ 8) → (gf_c b j u t = gf_m a b) → lv_has ls 5 [(0, .int (bI a)), (1, .int (bI b)), (2, .int (bI u)), (3, .int (bI t)), (4, .int (nI (j)))] → va_P D cls [] H → va_D A [] → va_S A s.heap H locs → W p l e ({ frames := 0, cells := 0, slots := 0, locals := 0 }) s m ([.int (bI a), .int (bI b)] : List Value).toArray below meth c H locs 0 0 (MQ below (sd_qi D (bI (gf_m a b)) [] A) ([.int (bI a), .int (bI b)] : List Value).toArray s 0 0 A) (F0 m 7 ls []) := by
    intro d
    induction d using Nat.strongRecOn with
    | _ d ih7 =>
    intro j u t ls H locs hd hj hu hl hP hD hS
    subst hd
    refine lv_iload hx hb d_B_product_7 (lv_at hl 4 rfl) ?_
    refine lv_bipush (v := 8) hx hb d_B_product_9 (by decide) ?_
    refine lv_icmp_ge (tgt := 51) hx hb d_B_product_11 rfl (fun hc11 => ?_) (fun hc11 => ?_)
    · skip
      have hj8 : j = 8 := by
        rw [show (8 : Int32) = nI 8 from rfl, nI_leI (by omega) (by omega)] at hc11
        omega
      subst hj8
      rw [gf_c8] at hu
      refine lv_iload_n hx hb d_B_product_51 rfl (lv_at hl 2 rfl) ?_
      exact sd_iret hx hb hr hlk hP hS (Nat.le_of_ble_eq_true rfl) (Nat.le_of_ble_eq_true rfl) (by rw [hu]) d_B_product_52
    · skip
      have hj8 : j < 8 := by
        rw [show (8 : Int32) = nI 8 from rfl, nI_leI (by omega) (by omega)] at hc11
        omega
      have join28 : ∀ (u2 : BitVec 8) (ls : Array Slot) (H : Heap) (locs : List Loc), (u2 = if b.getLsbD j = true then u ^^^ t else u) → lv_has ls 5 [(0, .int (bI a)), (1, .int (bI b)), (2, .int (bI u2)), (3, .int (bI t)), (4, .int (nI (j)))] → va_P D cls [] H → va_D A [] → va_S A s.heap H locs → W p l e ({ frames := 0, cells := 0, slots := 0, locals := 0 }) s m ([.int (bI a), .int (bI b)] : List Value).toArray below meth c H locs 0 0 (MQ below (sd_qi D (bI (gf_m a b)) [] A) ([.int (bI a), .int (bI b)] : List Value).toArray s 0 0 A) (F0 m 28 ls []) := by
        intro u2 ls H locs h2 hl hP hD hS
        have hn : gf_c b (j + 1) u2 (gf_x t) = gf_m a b := by rw [h2, gf_cS (by omega)]; exact hu
        refine lv_iload_n hx hb d_B_product_28 rfl (lv_at hl 3 rfl) ?_
        refine lv_iconst (v := 1) hx hb d_B_product_29 (by decide) ?_
        refine lv_ishl hx hb d_B_product_30 ?_
        refine lv_istore_n hx hb d_B_product_31 rfl hl (Nat.le_of_ble_eq_true rfl) (lv' := [(3, .int ((bI t) <<< ((1) &&& 31))), (0, .int (bI a)), (1, .int (bI b)), (2, .int (bI u2)), (4, .int (nI (j)))]) rfl (fun ls hl => ?_)
        refine lv_iload_n hx hb d_B_product_32 rfl (lv_at hl 0 rfl) ?_
        refine lv_sipush (v := 256) hx hb d_B_product_33 (by decide) ?_
        refine lv_icmp_lt (tgt := 45) hx hb d_B_product_36 rfl (fun hc36 => ?_) (fun hc36 => ?_)
        · skip
          rw [bI_xt1 hc36] at hl
          refine lv_iinc hx hb d_B_product_45 hl (k := 4) rfl (v := nI (j + 1)) (ii_1 _) (Nat.le_of_ble_eq_true rfl) (lv' := [(4, .int (nI (j + 1))), (3, .int (bI (gf_x t))), (0, .int (bI a)), (1, .int (bI b)), (2, .int (bI u2))]) rfl (fun ls hl => ?_)
          refine lv_goto (tgt := 7) hx hb d_B_product_48 rfl ?_
          have hl := lv_sub hl (l' := [(0, .int (bI a)), (1, .int (bI b)), (2, .int (bI u2)), (3, .int (bI (gf_x t))), (4, .int (nI (j + 1)))]) [2, 3, 4, 1, 0] rfl
          exact ih7 _ (by omega) (j + 1) _ _ ls _ _ rfl (by omega) (hn) hl hP hD hS
        · skip
          refine lv_iload_n hx hb d_B_product_39 rfl (lv_at hl 0 rfl) ?_
          refine lv_sipush (v := 283) hx hb d_B_product_40 (by decide) ?_
          refine lv_ixor hx hb d_B_product_43 ?_
          refine sd_top (y := bI (gf_x t)) (bI_xt2 hc36) ?_
          refine lv_istore_n hx hb d_B_product_44 rfl hl (Nat.le_of_ble_eq_true rfl) (lv' := [(3, .int (bI (gf_x t))), (0, .int (bI a)), (1, .int (bI b)), (2, .int (bI u2)), (4, .int (nI (j)))]) rfl (fun ls hl => ?_)
          refine lv_iinc hx hb d_B_product_45 hl (k := 4) rfl (v := nI (j + 1)) (ii_1 _) (Nat.le_of_ble_eq_true rfl) (lv' := [(4, .int (nI (j + 1))), (3, .int (bI (gf_x t))), (0, .int (bI a)), (1, .int (bI b)), (2, .int (bI u2))]) rfl (fun ls hl => ?_)
          refine lv_goto (tgt := 7) hx hb d_B_product_48 rfl ?_
          have hl := lv_sub hl (l' := [(0, .int (bI a)), (1, .int (bI b)), (2, .int (bI u2)), (3, .int (bI (gf_x t))), (4, .int (nI (j + 1)))]) [2, 3, 4, 1, 0] rfl
          exact ih7 _ (by omega) (j + 1) _ _ ls _ _ rfl (by omega) (hn) hl hP hD hS
      refine lv_iload_n hx hb d_B_product_14 rfl (lv_at hl 1 rfl) ?_
      refine lv_iload hx hb d_B_product_15 (lv_at hl 4 rfl) ?_
      refine lv_iushr hx hb d_B_product_17 rfl ?_
      refine lv_iconst (v := 1) hx hb d_B_product_18 (by decide) ?_
      refine lv_iand hx hb d_B_product_19 ?_
      refine lv_iconst (v := 1) hx hb d_B_product_20 (by decide) ?_
      refine lv_icmp_ne (tgt := 28) hx hb d_B_product_21 rfl (fun hc21 => ?_) (fun hc21 => ?_)
      · skip
        have hq : u = if b.getLsbD j = true then u ^^^ t else u := by rw [if_neg (fun h => hc21 ((bI_bit b j hj8).mpr h))]
        have hl := lv_sub hl (l' := [(0, .int (bI a)), (1, .int (bI b)), (2, .int (bI u)), (3, .int (bI t)), (4, .int (nI (j)))]) [0, 1, 2, 3, 4] rfl
        exact join28 _ ls _ _ (hq) hl hP hD hS
      · skip
        have hq : u ^^^ t = if b.getLsbD j = true then u ^^^ t else u := by rw [if_pos ((bI_bit b j hj8).mp hc21)]
        refine lv_iload_n hx hb d_B_product_24 rfl (lv_at hl 2 rfl) ?_
        refine lv_iload_n hx hb d_B_product_25 rfl (lv_at hl 3 rfl) ?_
        refine lv_ixor hx hb d_B_product_26 ?_
        refine sd_top (y := bI (u ^^^ t)) (bI_xor u t) ?_
        refine lv_istore_n hx hb d_B_product_27 rfl hl (Nat.le_of_ble_eq_true rfl) (lv' := [(2, .int (bI (u ^^^ t))), (0, .int (bI a)), (1, .int (bI b)), (3, .int (bI t)), (4, .int (nI (j)))]) rfl (fun ls hl => ?_)
        have hl := lv_sub hl (l' := [(0, .int (bI a)), (1, .int (bI b)), (2, .int (bI (u ^^^ t))), (3, .int (bI t)), (4, .int (nI (j)))]) [1, 2, 0, 3, 4] rfl
        exact join28 _ ls _ _ (hq) hl hP hD hS
  exact loop7 _ (0) (0#8) (a) ls _ _ rfl (by omega) (gf_c0 a b) hl hP hD hS
set_option maxHeartbeats 4000000 in
set_option maxRecDepth 100000 in
/-- the inverse of a byte (0 of 0) -/
theorem c_B_inverse (l : Launch) (D : va_G) (cI cZ cQ : ClassId) (b : BitVec 8) : sd_I l D (tyL cI cZ cQ) y_B_inverse b_B_inverse 4 (.int) ({ frames := 1, cells := 0, slots := 0, locals := 24 }) [.int (bI b)] [] (bI (gf_i b)) [] := by
  refine sd_ofI (by decide) (Nat.le_of_ble_eq_true rfl) ?_
  intro p e s m below meth c A ls hx hb hr hml hlk hown hts hK hP hD hA hS hl
  have hl : lv_has ls 4 [(0, .int (bI b))] := hl
  refine lv_iconst (v := 1) hx hb d_B_inverse_0 (by decide) ?_
  refine sd_top (y := bI 1#8) (bI_1.symm) ?_
  refine lv_istore_n hx hb d_B_inverse_1 rfl hl (Nat.le_of_ble_eq_true rfl) (lv' := [(1, .int (bI 1#8)), (0, .int (bI b))]) rfl (fun ls hl => ?_)
  refine lv_iload_n hx hb d_B_inverse_2 rfl (lv_at hl 1 rfl) ?_
  refine lv_istore_n hx hb d_B_inverse_3 rfl hl (Nat.le_of_ble_eq_true rfl) (lv' := [(2, .int (bI b)), (1, .int (bI 1#8)), (0, .int (bI b))]) rfl (fun ls hl => ?_)
  refine lv_iconst (v := nI 1) hx hb d_B_inverse_4 (by decide) ?_
  refine lv_istore_n hx hb d_B_inverse_5 rfl hl (Nat.le_of_ble_eq_true rfl) (lv' := [(3, .int (nI 1)), (2, .int (bI b)), (1, .int (bI 1#8)), (0, .int (bI b))]) rfl (fun ls hl => ?_)
  have hl := lv_sub hl (l' := [(0, .int (bI b)), (1, .int (bI 1#8)), (2, .int (bI b)), (3, .int (nI 1))]) [3, 2, 1, 0] rfl
  have loop6 : ∀ (d : Nat) (j : Nat) (r : BitVec 8) (q : BitVec 8) (ls : Array Slot) (H : Heap) (locs : List Loc), 8 - j = d → (1 ≤ j) → (j ≤ 8) → (gf_iA (8 - j) r q = gf_i b) → lv_has ls 4 [(0, .int (bI b)), (1, .int (bI r)), (2, .int (bI q)), (3, .int (nI (j)))] → va_P D cls [] H → va_D A [] → va_S A s.heap H locs → W p l e ({ frames := 1, cells := 0, slots := 0, locals := 24 }) s m ([.int (bI b)] : List Value).toArray below meth c H locs 0 0 (MQ below (sd_qi D (bI (gf_i b)) [] A) ([.int (bI b)] : List Value).toArray s 0 0 A) (F0 m 6 ls []) := by
    intro d
    induction d using Nat.strongRecOn with
    | _ d ih6 =>
    intro j r q ls H locs hd h1 hj hi hl hP hD hS
    subst hd
    refine lv_iload_n hx hb d_B_inverse_6 rfl (lv_at hl 3 rfl) ?_
    refine lv_bipush (v := nI 8) hx hb d_B_inverse_7 (by decide) ?_
    refine lv_icmp_ge (tgt := 30) hx hb d_B_inverse_9 rfl (fun hc9 => ?_) (fun hc9 => ?_)
    · skip
      have hj8 : j = 8 := by
        rw [nI_leI (by omega) (by omega)] at hc9
        omega
      subst hj8
      refine lv_iload_n hx hb d_B_inverse_30 rfl (lv_at hl 1 rfl) ?_
      exact sd_iret hx hb hr hlk hP hS (Nat.le_of_ble_eq_true rfl) (Nat.le_of_ble_eq_true rfl) (by rw [← hi]; rfl) d_B_inverse_31
    · skip
      have hj8 : j < 8 := by
        rw [nI_leI (by omega) (by omega)] at hc9
        omega
      refine lv_iload_n hx hb d_B_inverse_12 rfl (lv_at hl 2 rfl) ?_
      refine lv_iload_n hx hb d_B_inverse_13 rfl (lv_at hl 2 rfl) ?_
      refine sd_callSI (As := [.int (bI q), .int (bI q)]) (rest := []) (cx := []) (w1 := []) (c_B_product l D cI cZ cQ (q) (q)) ⟨wc_B_product, wm_B_13, wi_B, by decide, by decide, show (parseMethodDescriptor y_B_product.desc).map (fun d => d.parameters.length) = some 2 by decide +kernel⟩ ws_B_product hx hb hml hown hts hl.1 ⟨Nat.le_of_ble_eq_true rfl, Nat.le_of_ble_eq_true rfl⟩ ⟨Nat.le_of_ble_eq_true rfl, Nat.le_of_ble_eq_true rfl⟩ hK hP hD hS hA [] rfl (by decide) rfl rfl rfl (Nat.le_of_ble_eq_true rfl) d_B_inverse_14 (fun H locs hP hD hS => ?_)
      have hP : va_P D cls [] H := hP
      have hD : va_D A [] := hD
      refine lv_istore_n hx hb d_B_inverse_17 rfl hl (Nat.le_of_ble_eq_true rfl) (lv' := [(2, .int (bI (gf_m q q))), (0, .int (bI b)), (1, .int (bI r)), (3, .int (nI (j)))]) rfl (fun ls hl => ?_)
      refine lv_iload_n hx hb d_B_inverse_18 rfl (lv_at hl 2 rfl) ?_
      refine lv_iload_n hx hb d_B_inverse_19 rfl (lv_at hl 0 rfl) ?_
      refine sd_callSI (As := [.int (bI r), .int (bI (gf_m q q))]) (rest := []) (cx := []) (w1 := []) (c_B_product l D cI cZ cQ (r) (gf_m q q)) ⟨wc_B_product, wm_B_13, wi_B, by decide, by decide, show (parseMethodDescriptor y_B_product.desc).map (fun d => d.parameters.length) = some 2 by decide +kernel⟩ ws_B_product hx hb hml hown hts hl.1 ⟨Nat.le_of_ble_eq_true rfl, Nat.le_of_ble_eq_true rfl⟩ ⟨Nat.le_of_ble_eq_true rfl, Nat.le_of_ble_eq_true rfl⟩ hK hP hD hS hA [] rfl (by decide) rfl rfl rfl (Nat.le_of_ble_eq_true rfl) d_B_inverse_20 (fun H locs hP hD hS => ?_)
      have hP : va_P D cls [] H := hP
      have hD : va_D A [] := hD
      refine lv_istore_n hx hb d_B_inverse_23 rfl hl (Nat.le_of_ble_eq_true rfl) (lv' := [(1, .int (bI (gf_m r (gf_m q q)))), (2, .int (bI (gf_m q q))), (0, .int (bI b)), (3, .int (nI (j)))]) rfl (fun ls hl => ?_)
      refine lv_iinc hx hb d_B_inverse_24 hl (k := 3) rfl (v := nI (j + 1)) (ii_1 _) (Nat.le_of_ble_eq_true rfl) (lv' := [(3, .int (nI (j + 1))), (1, .int (bI (gf_m r (gf_m q q)))), (2, .int (bI (gf_m q q))), (0, .int (bI b))]) rfl (fun ls hl => ?_)
      refine lv_goto (tgt := 6) hx hb d_B_inverse_27 rfl ?_
      have hl := lv_sub hl (l' := [(0, .int (bI b)), (1, .int (bI (gf_m r (gf_m q q)))), (2, .int (bI (gf_m q q))), (3, .int (nI (j + 1)))]) [3, 1, 2, 0] rfl
      exact ih6 _ (by omega) (j + 1) _ _ ls _ _ rfl (by omega) (by omega) (by rw [← hi, show 8 - j = (8 - (j + 1)) + 1 by omega]; rfl) hl hP hD hS
  exact loop6 _ (1) (1#8) (b) ls _ _ rfl (by omega) (by omega) (rfl) hl hP hD hS
set_option maxHeartbeats 4000000 in
set_option maxRecDepth 100000 in
/-- the quotient of two bytes -/
theorem c_B_quotient (l : Launch) (D : va_G) (cI cZ cQ : ClassId) (a : BitVec 8) (b : BitVec 8) : sd_I l D (tyL cI cZ cQ) y_B_quotient b_B_quotient 2 (.int) ({ frames := 2, cells := 0, slots := 0, locals := 47 }) [.int (bI a), .int (bI b)] [] (bI (gf_m a (gf_i b))) [] := by
  refine sd_ofI (by decide) (Nat.le_of_ble_eq_true rfl) ?_
  intro p e s m below meth c A ls hx hb hr hml hlk hown hts hK hP hD hA hS hl
  have hl : lv_has ls 2 [(0, .int (bI a)), (1, .int (bI b))] := hl
  refine lv_iload_n hx hb d_B_quotient_0 rfl (lv_at hl 0 rfl) ?_
  refine lv_iload_n hx hb d_B_quotient_1 rfl (lv_at hl 1 rfl) ?_
  refine sd_callSI (As := [.int (bI b)]) (rest := [.int (bI a)]) (cx := []) (w1 := []) (c_B_inverse l D cI cZ cQ (b)) ⟨wc_B_inverse, wm_B_9, wi_B, by decide, by decide, show (parseMethodDescriptor y_B_inverse.desc).map (fun d => d.parameters.length) = some 1 by decide +kernel⟩ ws_B_inverse hx hb hml hown hts hl.1 ⟨Nat.le_of_ble_eq_true rfl, Nat.le_of_ble_eq_true rfl⟩ ⟨Nat.le_of_ble_eq_true rfl, Nat.le_of_ble_eq_true rfl⟩ hK hP hD hS hA [] rfl (by decide) rfl rfl rfl (Nat.le_of_ble_eq_true rfl) d_B_quotient_2 (fun H locs hP hD hS => ?_)
  have hP : va_P D cls [] H := hP
  have hD : va_D A [] := hD
  refine sd_callSI (As := [.int (bI a), .int (bI (gf_i b))]) (rest := []) (cx := []) (w1 := []) (c_B_product l D cI cZ cQ (a) (gf_i b)) ⟨wc_B_product, wm_B_13, wi_B, by decide, by decide, show (parseMethodDescriptor y_B_product.desc).map (fun d => d.parameters.length) = some 2 by decide +kernel⟩ ws_B_product hx hb hml hown hts hl.1 ⟨Nat.le_of_ble_eq_true rfl, Nat.le_of_ble_eq_true rfl⟩ ⟨Nat.le_of_ble_eq_true rfl, Nat.le_of_ble_eq_true rfl⟩ hK hP hD hS hA [] rfl (by decide) rfl rfl rfl (Nat.le_of_ble_eq_true rfl) d_B_quotient_5 (fun H locs hP hD hS => ?_)
  have hP : va_P D cls [] H := hP
  have hD : va_D A [] := hD
  exact sd_iret hx hb hr hlk hP hS (Nat.le_of_ble_eq_true rfl) (Nat.le_of_ble_eq_true rfl) (rfl) d_B_quotient_8
set_option maxHeartbeats 4000000 in
set_option maxRecDepth 100000 in
/-- the value of a polynomial, by Horner -/
theorem c_B_valueAt (l : Launch) (D : va_G) (cI cZ cQ : ClassId) (ha : Nat) (n : Nat) (co : Nat → Int32) (cb : Nat → BitVec 8) (x : BitVec 8) (hn : n < 2 ^ 31) (hco : ∀ j, j < n → co j = bI (cb j)) : sd_I l D (tyL cI cZ cQ) y_B_valueAt b_B_valueAt 4 (.int) ({ frames := 1, cells := 0, slots := 0, locals := 24 }) [.ref ha, .int (bI x)] [(ha, .inl (cI, n, .inl (co)))] (bI (gf_h cb x n 0#8)) [(ha, .inl (cI, n, .inl (co)))] := by
  refine sd_ofI (by decide) (Nat.le_of_ble_eq_true rfl) ?_
  intro p e s m below meth c A ls hx hb hr hml hlk hown hts hK hP hD hA hS hl
  have hl : lv_has ls 4 [(0, .ref ha), (1, .int (bI x))] := hl
  refine lv_iconst (v := 0) hx hb d_B_valueAt_0 (by decide) ?_
  refine sd_top (y := bI 0#8) (bI_0.symm) ?_
  refine lv_istore_n hx hb d_B_valueAt_1 rfl hl (Nat.le_of_ble_eq_true rfl) (lv' := [(2, .int (bI 0#8)), (0, .ref ha), (1, .int (bI x))]) rfl (fun ls hl => ?_)
  refine lv_aload_n hx hb d_B_valueAt_2 rfl (lv_at hl 1 rfl) ?_
  refine va_alen hx hb hK hP 0 0 rfl rfl (v := nI (n)) rfl d_B_valueAt_3 ?_
  refine lv_iconst (v := 1) hx hb d_B_valueAt_4 (by decide) ?_
  refine lv_isub hx hb d_B_valueAt_5 ?_
  refine lv_istore_n hx hb d_B_valueAt_6 rfl hl (Nat.le_of_ble_eq_true rfl) (lv' := [(3, .int ((nI (n)) - (1))), (2, .int (bI 0#8)), (0, .ref ha), (1, .int (bI x))]) rfl (fun ls hl => ?_)
  have hl := lv_sub hl (l' := [(0, .ref ha), (1, .int (bI x)), (2, .int (bI 0#8)), (3, .int ((nI (n)) - (1)))]) [2, 3, 1, 0] rfl
  have loop7 : ∀ (d : Nat) (i : Nat) (v : BitVec 8) (ls : Array Slot) (H : Heap) (locs : List Loc), i = d → (i ≤ n) → (gf_h cb x i v = gf_h cb x n 0#8) → lv_has ls 4 [(0, .ref ha), (1, .int (bI x)), (2, .int (bI v)), (3, .int (nI (i) - 1))] → va_P D cls [(ha, .inl (cI, n, .inl (co)))] H → va_D A [(ha, .inl (cI, n, .inl (co)))] → va_S A s.heap H locs → W p l e ({ frames := 1, cells := 0, slots := 0, locals := 24 }) s m ([.ref ha, .int (bI x)] : List Value).toArray below meth c H locs 0 0 (MQ below (sd_qi D (bI (gf_h cb x n 0#8)) [(ha, .inl (cI, n, .inl (co)))] A) ([.ref ha, .int (bI x)] : List Value).toArray s 0 0 A) (F0 m 7 ls []) := by
    intro d
    induction d using Nat.strongRecOn with
    | _ d ih7 =>
    intro i v ls H locs hd hin hv hl hP hD hS
    subst hd
    refine lv_iload_n hx hb d_B_valueAt_7 rfl (lv_at hl 3 rfl) ?_
    refine lv_if_lt (tgt := 27) hx hb d_B_valueAt_8 rfl (fun hc8 => ?_) (fun hc8 => ?_)
    · skip
      have hi0 : i = 0 := (nI_p1 (by omega)).mp hc8
      subst hi0
      refine lv_iload_n hx hb d_B_valueAt_27 rfl (lv_at hl 2 rfl) ?_
      exact sd_iret hx hb hr hlk hP hS (Nat.le_of_ble_eq_true rfl) (Nat.le_of_ble_eq_true rfl) (by rw [← hv]; rfl) d_B_valueAt_28
    · skip
      have hne : i ≠ 0 := fun h => hc8 ((nI_p1 (by omega)).mpr h)
      obtain ⟨k, rfl⟩ : ∃ k, i = k + 1 := ⟨i - 1, by omega⟩
      rw [nI_pred k] at hl
      refine lv_iload_n hx hb d_B_valueAt_11 rfl (lv_at hl 2 rfl) ?_
      refine lv_iload_n hx hb d_B_valueAt_12 rfl (lv_at hl 1 rfl) ?_
      refine sd_callSI (As := [.int (bI v), .int (bI x)]) (rest := []) (cx := []) (w1 := []) (c_B_product l D cI cZ cQ (v) (x)) ⟨wc_B_product, wm_B_13, wi_B, by decide, by decide, show (parseMethodDescriptor y_B_product.desc).map (fun d => d.parameters.length) = some 2 by decide +kernel⟩ ws_B_product hx hb hml hown hts hl.1 ⟨Nat.le_of_ble_eq_true rfl, Nat.le_of_ble_eq_true rfl⟩ ⟨Nat.le_of_ble_eq_true rfl, Nat.le_of_ble_eq_true rfl⟩ hK hP hD hS hA [] rfl (by decide) rfl rfl rfl (Nat.le_of_ble_eq_true rfl) d_B_valueAt_13 (fun H locs hP hD hS => ?_)
      have hP : va_P D cls [(ha, .inl (cI, n, .inl (co)))] H := hP
      have hD : va_D A [(ha, .inl (cI, n, .inl (co)))] := hD
      refine lv_aload_n hx hb d_B_valueAt_16 rfl (lv_at hl 0 rfl) ?_
      refine lv_iload_n hx hb d_B_valueAt_17 rfl (lv_at hl 3 rfl) ?_
      refine sd_iald (j := k) hx hb hK hP 0 0 rfl rfl (by omega) (by omega) d_B_valueAt_18 ?_
      refine sd_top (y := bI (cb k)) (hco k (by omega)) ?_
      refine lv_ixor hx hb d_B_valueAt_19 ?_
      refine sd_top (y := bI (gf_m v x ^^^ cb k)) (bI_xor _ _) ?_
      refine lv_istore_n hx hb d_B_valueAt_20 rfl hl (Nat.le_of_ble_eq_true rfl) (lv' := [(2, .int (bI (gf_m v x ^^^ cb k))), (0, .ref ha), (1, .int (bI x)), (3, .int (nI (k)))]) rfl (fun ls hl => ?_)
      refine lv_iinc hx hb d_B_valueAt_21 hl (k := 3) rfl (v := nI (k) - 1) (ii_sub _) (Nat.le_of_ble_eq_true rfl) (lv' := [(3, .int (nI (k) - 1)), (2, .int (bI (gf_m v x ^^^ cb k))), (0, .ref ha), (1, .int (bI x))]) rfl (fun ls hl => ?_)
      refine lv_goto (tgt := 7) hx hb d_B_valueAt_24 rfl ?_
      have hl := lv_sub hl (l' := [(0, .ref ha), (1, .int (bI x)), (2, .int (bI (gf_m v x ^^^ cb k))), (3, .int (nI (k) - 1))]) [2, 3, 1, 0] rfl
      exact ih7 _ (by omega) (k) _ ls _ _ rfl (by omega) (hv) hl hP hD hS
  exact loop7 _ (n) (0#8) ls _ _ rfl (Nat.le_refl n) (rfl) hl hP hD hS
end
section
/-- a message at its place in the log -/
def lg_put (g : Nat → Int32) (T : Nat) (a b x : Int32) : Nat → Int32 := upd (upd (upd g (T % 64 * 3) a) (T % 64 * 3 + 1) b) (T % 64 * 3 + 2) x
theorem d_P_put_0 : decode b_P_put 0 = .ok (.aload_n 0, 1) := by decide +kernel
theorem d_P_put_1 : decode b_P_put 1 = .ok (.getfield 9, 3) := by decide +kernel
theorem d_P_put_4 : decode b_P_put 4 = .ok (.aload_n 0, 1) := by decide +kernel
theorem d_P_put_5 : decode b_P_put 5 = .ok (.getfield 13, 3) := by decide +kernel
theorem d_P_put_8 : decode b_P_put 8 = .ok (.aload_n 0, 1) := by decide +kernel
theorem d_P_put_9 : decode b_P_put 9 = .ok (.getfield 17, 3) := by decide +kernel
theorem d_P_put_12 : decode b_P_put 12 = .ok (.iadd, 1) := by decide +kernel
theorem d_P_put_13 : decode b_P_put 13 = .ok (.sipush 1000, 3) := by decide +kernel
theorem d_P_put_16 : decode b_P_put 16 = .ok (.irem, 1) := by decide +kernel
theorem d_P_put_17 : decode b_P_put 17 = .ok (.iload_n 1, 1) := by decide +kernel
theorem d_P_put_18 : decode b_P_put 18 = .ok (.iastore, 1) := by decide +kernel
theorem d_P_put_19 : decode b_P_put 19 = .ok (.aload_n 0, 1) := by decide +kernel
theorem d_P_put_20 : decode b_P_put 20 = .ok (.dup, 1) := by decide +kernel
theorem d_P_put_21 : decode b_P_put 21 = .ok (.getfield 17, 3) := by decide +kernel
theorem d_P_put_24 : decode b_P_put 24 = .ok (.iconst 1, 1) := by decide +kernel
theorem d_P_put_25 : decode b_P_put 25 = .ok (.iadd, 1) := by decide +kernel
theorem d_P_put_26 : decode b_P_put 26 = .ok (.putfield 17, 3) := by decide +kernel
theorem d_P_put_29 : decode b_P_put 29 = .ok (.return_, 1) := by decide +kernel
theorem d_P_take_0 : decode b_P_take 0 = .ok (.aload_n 0, 1) := by decide +kernel
theorem d_P_take_1 : decode b_P_take 1 = .ok (.getfield 9, 3) := by decide +kernel
theorem d_P_take_4 : decode b_P_take 4 = .ok (.aload_n 0, 1) := by decide +kernel
theorem d_P_take_5 : decode b_P_take 5 = .ok (.getfield 13, 3) := by decide +kernel
theorem d_P_take_8 : decode b_P_take 8 = .ok (.iaload, 1) := by decide +kernel
theorem d_P_take_9 : decode b_P_take 9 = .ok (.istore_n 1, 1) := by decide +kernel
theorem d_P_take_10 : decode b_P_take 10 = .ok (.aload_n 0, 1) := by decide +kernel
theorem d_P_take_11 : decode b_P_take 11 = .ok (.aload_n 0, 1) := by decide +kernel
theorem d_P_take_12 : decode b_P_take 12 = .ok (.getfield 13, 3) := by decide +kernel
theorem d_P_take_15 : decode b_P_take 15 = .ok (.iconst 1, 1) := by decide +kernel
theorem d_P_take_16 : decode b_P_take 16 = .ok (.iadd, 1) := by decide +kernel
theorem d_P_take_17 : decode b_P_take 17 = .ok (.sipush 1000, 3) := by decide +kernel
theorem d_P_take_20 : decode b_P_take 20 = .ok (.irem, 1) := by decide +kernel
theorem d_P_take_21 : decode b_P_take 21 = .ok (.putfield 13, 3) := by decide +kernel
theorem d_P_take_24 : decode b_P_take 24 = .ok (.aload_n 0, 1) := by decide +kernel
theorem d_P_take_25 : decode b_P_take 25 = .ok (.dup, 1) := by decide +kernel
theorem d_P_take_26 : decode b_P_take 26 = .ok (.getfield 17, 3) := by decide +kernel
theorem d_P_take_29 : decode b_P_take 29 = .ok (.iconst 1, 1) := by decide +kernel
theorem d_P_take_30 : decode b_P_take 30 = .ok (.isub, 1) := by decide +kernel
theorem d_P_take_31 : decode b_P_take 31 = .ok (.putfield 17, 3) := by decide +kernel
theorem d_P_take_34 : decode b_P_take 34 = .ok (.iload_n 1, 1) := by decide +kernel
theorem d_P_take_35 : decode b_P_take 35 = .ok (.ireturn, 1) := by decide +kernel
theorem d_G_note_0 : decode b_G_note 0 = .ok (.aload_n 0, 1) := by decide +kernel
theorem d_G_note_1 : decode b_G_note 1 = .ok (.getfield 13, 3) := by decide +kernel
theorem d_G_note_4 : decode b_G_note 4 = .ok (.bipush 64, 2) := by decide +kernel
theorem d_G_note_6 : decode b_G_note 6 = .ok (.irem, 1) := by decide +kernel
theorem d_G_note_7 : decode b_G_note 7 = .ok (.iconst 3, 1) := by decide +kernel
theorem d_G_note_8 : decode b_G_note 8 = .ok (.imul, 1) := by decide +kernel
theorem d_G_note_9 : decode b_G_note 9 = .ok (.istore 4, 2) := by decide +kernel
theorem d_G_note_11 : decode b_G_note 11 = .ok (.aload_n 0, 1) := by decide +kernel
theorem d_G_note_12 : decode b_G_note 12 = .ok (.getfield 9, 3) := by decide +kernel
theorem d_G_note_15 : decode b_G_note 15 = .ok (.iload 4, 2) := by decide +kernel
theorem d_G_note_17 : decode b_G_note 17 = .ok (.iload_n 1, 1) := by decide +kernel
theorem d_G_note_18 : decode b_G_note 18 = .ok (.iastore, 1) := by decide +kernel
theorem d_G_note_19 : decode b_G_note 19 = .ok (.aload_n 0, 1) := by decide +kernel
theorem d_G_note_20 : decode b_G_note 20 = .ok (.getfield 9, 3) := by decide +kernel
theorem d_G_note_23 : decode b_G_note 23 = .ok (.iload 4, 2) := by decide +kernel
theorem d_G_note_25 : decode b_G_note 25 = .ok (.iconst 1, 1) := by decide +kernel
theorem d_G_note_26 : decode b_G_note 26 = .ok (.iadd, 1) := by decide +kernel
theorem d_G_note_27 : decode b_G_note 27 = .ok (.iload_n 2, 1) := by decide +kernel
theorem d_G_note_28 : decode b_G_note 28 = .ok (.iastore, 1) := by decide +kernel
theorem d_G_note_29 : decode b_G_note 29 = .ok (.aload_n 0, 1) := by decide +kernel
theorem d_G_note_30 : decode b_G_note 30 = .ok (.getfield 9, 3) := by decide +kernel
theorem d_G_note_33 : decode b_G_note 33 = .ok (.iload 4, 2) := by decide +kernel
theorem d_G_note_35 : decode b_G_note 35 = .ok (.iconst 2, 1) := by decide +kernel
theorem d_G_note_36 : decode b_G_note 36 = .ok (.iadd, 1) := by decide +kernel
theorem d_G_note_37 : decode b_G_note 37 = .ok (.iload_n 3, 1) := by decide +kernel
theorem d_G_note_38 : decode b_G_note 38 = .ok (.iastore, 1) := by decide +kernel
theorem d_G_note_39 : decode b_G_note 39 = .ok (.aload_n 0, 1) := by decide +kernel
theorem d_G_note_40 : decode b_G_note 40 = .ok (.dup, 1) := by decide +kernel
theorem d_G_note_41 : decode b_G_note 41 = .ok (.getfield 13, 3) := by decide +kernel
theorem d_G_note_44 : decode b_G_note 44 = .ok (.iconst 1, 1) := by decide +kernel
theorem d_G_note_45 : decode b_G_note 45 = .ok (.iadd, 1) := by decide +kernel
theorem d_G_note_46 : decode b_G_note 46 = .ok (.putfield 13, 3) := by decide +kernel
theorem d_G_note_49 : decode b_G_note 49 = .ok (.return_, 1) := by decide +kernel
theorem d_G_look_0 : decode b_G_look 0 = .ok (.aload_n 0, 1) := by decide +kernel
theorem d_G_look_1 : decode b_G_look 1 = .ok (.getfield 9, 3) := by decide +kernel
theorem d_G_look_4 : decode b_G_look 4 = .ok (.aload_n 0, 1) := by decide +kernel
theorem d_G_look_5 : decode b_G_look 5 = .ok (.getfield 13, 3) := by decide +kernel
theorem d_G_look_8 : decode b_G_look 8 = .ok (.iconst 1, 1) := by decide +kernel
theorem d_G_look_9 : decode b_G_look 9 = .ok (.isub, 1) := by decide +kernel
theorem d_G_look_10 : decode b_G_look 10 = .ok (.iload_n 1, 1) := by decide +kernel
theorem d_G_look_11 : decode b_G_look 11 = .ok (.isub, 1) := by decide +kernel
theorem d_G_look_12 : decode b_G_look 12 = .ok (.bipush 64, 2) := by decide +kernel
theorem d_G_look_14 : decode b_G_look 14 = .ok (.irem, 1) := by decide +kernel
theorem d_G_look_15 : decode b_G_look 15 = .ok (.iconst 3, 1) := by decide +kernel
theorem d_G_look_16 : decode b_G_look 16 = .ok (.imul, 1) := by decide +kernel
theorem d_G_look_17 : decode b_G_look 17 = .ok (.iload_n 2, 1) := by decide +kernel
theorem d_G_look_18 : decode b_G_look 18 = .ok (.iadd, 1) := by decide +kernel
theorem d_G_look_19 : decode b_G_look 19 = .ok (.iaload, 1) := by decide +kernel
theorem d_G_look_20 : decode b_G_look 20 = .ok (.ireturn, 1) := by decide +kernel
set_option maxHeartbeats 4000000 in
set_option maxRecDepth 100000 in
theorem c_P_put (l : Launch) (D : va_G) (cI cZ cQ : ClassId) (qp : Nat) (qr : Nat) (pf : Nat) (pn : Nat) (pr : Nat → Int32) (v : Int32) (hf : pf < 1000) (hn : pn < 1000) : sd_V l D (tyL cI cZ cQ) y_P_put b_P_put 2 ({ frames := 0, cells := 0, slots := 0, locals := 0 }) [.ref qp, .int (v)] [(qp, .inr (0, [.ref qr, .int (nI (pf)), .int (nI (pn))])), (qr, .inl (cI, 1000, .inl (pr)))] [(qp, .inr (0, [.ref qr, .int (nI (pf)), .int (nI (pn + 1))])), (qr, .inl (cI, 1000, .inl (upd pr ((pf + pn) % 1000) v)))] := by
  refine sd_ofV (by decide) (Nat.le_of_ble_eq_true rfl) ?_
  intro p e s m below meth c A ls hx hb hr hml hlk hown hts hK hP hD hA hS hl
  have hl : lv_has ls 2 [(0, .ref qp), (1, .int (v))] := hl
  refine lv_aload_n hx hb d_P_put_0 rfl (lv_at hl 0 rfl) ?_
  refine va_get (D := D) (ci := 0) (v := .ref qr) (C := R_P) (T := F_P) (N := 3) hx hb hts wl_P hown hK hP 0 rfl rfl 0 (by decide) (hts _ wf_P_9) (fun _ h9 => h9) rfl d_P_put_1 ?_
  refine lv_aload_n hx hb d_P_put_4 rfl (lv_at hl 0 rfl) ?_
  refine va_get (D := D) (ci := 0) (v := .int (nI (pf))) (C := R_P) (T := F_P) (N := 3) hx hb hts wl_P hown hK hP 0 rfl rfl 1 (by decide) (hts _ wf_P_13) (fun _ h9 => h9) rfl d_P_put_5 ?_
  refine lv_aload_n hx hb d_P_put_8 rfl (lv_at hl 0 rfl) ?_
  refine va_get (D := D) (ci := 0) (v := .int (nI (pn))) (C := R_P) (T := F_P) (N := 3) hx hb hts wl_P hown hK hP 0 rfl rfl 2 (by decide) (hts _ wf_P_17) (fun _ h9 => h9) rfl d_P_put_9 ?_
  refine lv_iadd hx hb d_P_put_12 ?_
  refine sd_top (y := nI (pf + pn)) (nI_add pf pn) ?_
  refine lv_sipush (v := nI 1000) hx hb d_P_put_13 (by decide) ?_
  refine lv_irem hx hb d_P_put_16 (by decide) ?_
  refine sd_top (y := nI ((pf + pn) % 1000)) (pk_rem (by omega) (by omega) (by omega)) ?_
  refine lv_iload_n hx hb d_P_put_17 rfl (lv_at hl 1 rfl) ?_
  refine sd_iast (j := (pf + pn) % 1000) hx hb hK hP hD hS 1 0 rfl rfl (Nat.mod_lt _ (by omega)) (by omega) d_P_put_18 (fun H locs hP hD hS => ?_)
  have hP : va_P D cls [(qp, .inr (0, [.ref qr, .int (nI (pf)), .int (nI (pn))])), (qr, .inl (cI, 1000, .inl (upd (pr) ((pf + pn) % 1000) (v))))] H := hP
  have hD : va_D A [(qp, .inr (0, [.ref qr, .int (nI (pf)), .int (nI (pn))])), (qr, .inl (cI, 1000, .inl (upd (pr) ((pf + pn) % 1000) (v))))] := hD
  refine lv_aload_n hx hb d_P_put_19 rfl (lv_at hl 0 rfl) ?_
  refine lv_dup hx hb d_P_put_20 rfl ?_
  refine va_get (D := D) (ci := 0) (v := .int (nI (pn))) (C := R_P) (T := F_P) (N := 3) hx hb hts wl_P hown hK hP 0 rfl rfl 2 (by decide) (hts _ wf_P_17) (fun _ h9 => h9) rfl d_P_put_21 ?_
  refine lv_iconst (v := 1) hx hb d_P_put_24 (by decide) ?_
  refine lv_iadd hx hb d_P_put_25 ?_
  refine sd_top (y := nI (pn + 1)) (nI_1 pn) ?_
  refine va_put (D := D) (ci := 0) (v := .int (nI (pn + 1))) (ty := .int) (C := R_P) (T := F_P) (N := 3) hx hb hts wl_P t_P t_P_ok n_P hown hK hP hD hS 0 rfl rfl 2 (by decide) (hts _ wf_P_17) (fun _ h9 => h9) rfl (by decide +kernel) rfl rfl (Nat.le_of_ble_eq_true rfl) d_P_put_26 (fun H locs hP hD hS => ?_)
  have hP : va_P D cls [(qp, .inr (0, [.ref qr, .int (nI (pf)), .int (nI (pn + 1))])), (qr, .inl (cI, 1000, .inl (upd (pr) ((pf + pn) % 1000) (v))))] H := hP
  have hD : va_D A [(qp, .inr (0, [.ref qr, .int (nI (pf)), .int (nI (pn + 1))])), (qr, .inl (cI, 1000, .inl (upd (pr) ((pf + pn) % 1000) (v))))] := hD
  exact sd_vret hx hb hr hlk hP hS (Nat.le_of_ble_eq_true rfl) (Nat.le_of_ble_eq_true rfl) d_P_put_29
set_option maxHeartbeats 4000000 in
set_option maxRecDepth 100000 in
theorem c_P_take (l : Launch) (D : va_G) (cI cZ cQ : ClassId) (qp : Nat) (qr : Nat) (pf : Nat) (pn : Nat) (pr : Nat → Int32) (hf : pf < 1000) (hn : 0 < pn) : sd_I l D (tyL cI cZ cQ) y_P_take b_P_take 2 (.int) ({ frames := 0, cells := 0, slots := 0, locals := 0 }) [.ref qp] [(qp, .inr (0, [.ref qr, .int (nI (pf)), .int (nI (pn))])), (qr, .inl (cI, 1000, .inl (pr)))] (pr pf) [(qp, .inr (0, [.ref qr, .int (nI ((pf + 1) % 1000)), .int (nI (pn - 1))])), (qr, .inl (cI, 1000, .inl (pr)))] := by
  refine sd_ofI (by decide) (Nat.le_of_ble_eq_true rfl) ?_
  intro p e s m below meth c A ls hx hb hr hml hlk hown hts hK hP hD hA hS hl
  have hl : lv_has ls 2 [(0, .ref qp)] := hl
  refine lv_aload_n hx hb d_P_take_0 rfl (lv_at hl 0 rfl) ?_
  refine va_get (D := D) (ci := 0) (v := .ref qr) (C := R_P) (T := F_P) (N := 3) hx hb hts wl_P hown hK hP 0 rfl rfl 0 (by decide) (hts _ wf_P_9) (fun _ h9 => h9) rfl d_P_take_1 ?_
  refine lv_aload_n hx hb d_P_take_4 rfl (lv_at hl 0 rfl) ?_
  refine va_get (D := D) (ci := 0) (v := .int (nI (pf))) (C := R_P) (T := F_P) (N := 3) hx hb hts wl_P hown hK hP 0 rfl rfl 1 (by decide) (hts _ wf_P_13) (fun _ h9 => h9) rfl d_P_take_5 ?_
  refine sd_iald (j := pf) hx hb hK hP 1 0 rfl rfl (by omega) (by omega) d_P_take_8 ?_
  refine lv_istore_n hx hb d_P_take_9 rfl hl (Nat.le_of_ble_eq_true rfl) (lv' := [(1, .int (pr (pf))), (0, .ref qp)]) rfl (fun ls hl => ?_)
  refine lv_aload_n hx hb d_P_take_10 rfl (lv_at hl 1 rfl) ?_
  refine lv_aload_n hx hb d_P_take_11 rfl (lv_at hl 1 rfl) ?_
  refine va_get (D := D) (ci := 0) (v := .int (nI (pf))) (C := R_P) (T := F_P) (N := 3) hx hb hts wl_P hown hK hP 0 rfl rfl 1 (by decide) (hts _ wf_P_13) (fun _ h9 => h9) rfl d_P_take_12 ?_
  refine lv_iconst (v := 1) hx hb d_P_take_15 (by decide) ?_
  refine lv_iadd hx hb d_P_take_16 ?_
  refine sd_top (y := nI (pf + 1)) (nI_1 pf) ?_
  refine lv_sipush (v := nI 1000) hx hb d_P_take_17 (by decide) ?_
  refine lv_irem hx hb d_P_take_20 (by decide) ?_
  refine sd_top (y := nI ((pf + 1) % 1000)) (pk_rem (by omega) (by omega) (by omega)) ?_
  refine va_put (D := D) (ci := 0) (v := .int (nI ((pf + 1) % 1000))) (ty := .int) (C := R_P) (T := F_P) (N := 3) hx hb hts wl_P t_P t_P_ok n_P hown hK hP hD hS 0 rfl rfl 1 (by decide) (hts _ wf_P_13) (fun _ h9 => h9) rfl (by decide +kernel) rfl rfl (Nat.le_of_ble_eq_true rfl) d_P_take_21 (fun H locs hP hD hS => ?_)
  have hP : va_P D cls [(qp, .inr (0, [.ref qr, .int (nI ((pf + 1) % 1000)), .int (nI (pn))])), (qr, .inl (cI, 1000, .inl (pr)))] H := hP
  have hD : va_D A [(qp, .inr (0, [.ref qr, .int (nI ((pf + 1) % 1000)), .int (nI (pn))])), (qr, .inl (cI, 1000, .inl (pr)))] := hD
  refine lv_aload_n hx hb d_P_take_24 rfl (lv_at hl 1 rfl) ?_
  refine lv_dup hx hb d_P_take_25 rfl ?_
  refine va_get (D := D) (ci := 0) (v := .int (nI (pn))) (C := R_P) (T := F_P) (N := 3) hx hb hts wl_P hown hK hP 0 rfl rfl 2 (by decide) (hts _ wf_P_17) (fun _ h9 => h9) rfl d_P_take_26 ?_
  refine lv_iconst (v := 1) hx hb d_P_take_29 (by decide) ?_
  refine lv_isub hx hb d_P_take_30 ?_
  refine sd_top (y := nI (pn - 1)) (ni_pred hn) ?_
  refine va_put (D := D) (ci := 0) (v := .int (nI (pn - 1))) (ty := .int) (C := R_P) (T := F_P) (N := 3) hx hb hts wl_P t_P t_P_ok n_P hown hK hP hD hS 0 rfl rfl 2 (by decide) (hts _ wf_P_17) (fun _ h9 => h9) rfl (by decide +kernel) rfl rfl (Nat.le_of_ble_eq_true rfl) d_P_take_31 (fun H locs hP hD hS => ?_)
  have hP : va_P D cls [(qp, .inr (0, [.ref qr, .int (nI ((pf + 1) % 1000)), .int (nI (pn - 1))])), (qr, .inl (cI, 1000, .inl (pr)))] H := hP
  have hD : va_D A [(qp, .inr (0, [.ref qr, .int (nI ((pf + 1) % 1000)), .int (nI (pn - 1))])), (qr, .inl (cI, 1000, .inl (pr)))] := hD
  refine lv_iload_n hx hb d_P_take_34 rfl (lv_at hl 0 rfl) ?_
  exact sd_iret hx hb hr hlk hP hS (Nat.le_of_ble_eq_true rfl) (Nat.le_of_ble_eq_true rfl) (rfl) d_P_take_35
set_option maxHeartbeats 4000000 in
set_option maxRecDepth 100000 in
theorem c_G_note (l : Launch) (D : va_G) (cI cZ cQ : ClassId) (qg : Nat) (qs : Nat) (T : Nat) (g : Nat → Int32) (a : Int32) (b : Int32) (x : Int32) (hT : T < 2 ^ 31) : sd_V l D (tyL cI cZ cQ) y_G_note b_G_note 5 ({ frames := 0, cells := 0, slots := 0, locals := 0 }) [.ref qg, .int (a), .int (b), .int (x)] [(qg, .inr (1, [.ref qs, .int (nI (T))])), (qs, .inl (cI, 192, .inl (g)))] [(qg, .inr (1, [.ref qs, .int (nI (T + 1))])), (qs, .inl (cI, 192, .inl (lg_put g T a b x)))] := by
  refine sd_ofV (by decide) (Nat.le_of_ble_eq_true rfl) ?_
  intro p e s m below meth c A ls hx hb hr hml hlk hown hts hK hP hD hA hS hl
  have hl : lv_has ls 5 [(0, .ref qg), (1, .int (a)), (2, .int (b)), (3, .int (x))] := hl
  have h64 : T % 64 < 64 := Nat.mod_lt _ (by omega)
  refine lv_aload_n hx hb d_G_note_0 rfl (lv_at hl 0 rfl) ?_
  refine va_get (D := D) (ci := 1) (v := .int (nI (T))) (C := R_G) (T := F_G) (N := 2) hx hb hts wl_G hown hK hP 0 rfl rfl 1 (by decide) (hts _ wf_G_13) (fun _ h9 => h9) rfl d_G_note_1 ?_
  refine lv_bipush (v := nI 64) hx hb d_G_note_4 (by decide) ?_
  refine lv_irem hx hb d_G_note_6 (by decide) ?_
  refine sd_top (y := nI (T % 64)) (pk_rem (by omega) (by omega) (by omega)) ?_
  refine lv_iconst (v := nI 3) hx hb d_G_note_7 (by decide) ?_
  refine lv_imul hx hb d_G_note_8 ?_
  refine sd_top (y := nI (T % 64 * 3)) (pk_mul _ _) ?_
  refine lv_istore hx hb d_G_note_9 hl (Nat.le_of_ble_eq_true rfl) (lv' := [(4, .int (nI (T % 64 * 3))), (0, .ref qg), (1, .int (a)), (2, .int (b)), (3, .int (x))]) rfl (fun ls hl => ?_)
  refine lv_aload_n hx hb d_G_note_11 rfl (lv_at hl 1 rfl) ?_
  refine va_get (D := D) (ci := 1) (v := .ref qs) (C := R_G) (T := F_G) (N := 2) hx hb hts wl_G hown hK hP 0 rfl rfl 0 (by decide) (hts _ wf_G_9) (fun _ h9 => h9) rfl d_G_note_12 ?_
  refine lv_iload hx hb d_G_note_15 (lv_at hl 0 rfl) ?_
  refine lv_iload_n hx hb d_G_note_17 rfl (lv_at hl 2 rfl) ?_
  refine sd_iast (j := T % 64 * 3) hx hb hK hP hD hS 1 0 rfl rfl (by omega) (by omega) d_G_note_18 (fun H locs hP hD hS => ?_)
  have hP : va_P D cls [(qg, .inr (1, [.ref qs, .int (nI (T))])), (qs, .inl (cI, 192, .inl (upd (g) (T % 64 * 3) (a))))] H := hP
  have hD : va_D A [(qg, .inr (1, [.ref qs, .int (nI (T))])), (qs, .inl (cI, 192, .inl (upd (g) (T % 64 * 3) (a))))] := hD
  refine lv_aload_n hx hb d_G_note_19 rfl (lv_at hl 1 rfl) ?_
  refine va_get (D := D) (ci := 1) (v := .ref qs) (C := R_G) (T := F_G) (N := 2) hx hb hts wl_G hown hK hP 0 rfl rfl 0 (by decide) (hts _ wf_G_9) (fun _ h9 => h9) rfl d_G_note_20 ?_
  refine lv_iload hx hb d_G_note_23 (lv_at hl 0 rfl) ?_
  refine lv_iconst (v := nI 1) hx hb d_G_note_25 (by decide) ?_
  refine lv_iadd hx hb d_G_note_26 ?_
  refine sd_top (y := nI (T % 64 * 3 + 1)) (nI_add _ _) ?_
  refine lv_iload_n hx hb d_G_note_27 rfl (lv_at hl 3 rfl) ?_
  refine sd_iast (j := T % 64 * 3 + 1) hx hb hK hP hD hS 1 0 rfl rfl (by omega) (by omega) d_G_note_28 (fun H locs hP hD hS => ?_)
  have hP : va_P D cls [(qg, .inr (1, [.ref qs, .int (nI (T))])), (qs, .inl (cI, 192, .inl (upd (upd (g) (T % 64 * 3) (a)) (T % 64 * 3 + 1) (b))))] H := hP
  have hD : va_D A [(qg, .inr (1, [.ref qs, .int (nI (T))])), (qs, .inl (cI, 192, .inl (upd (upd (g) (T % 64 * 3) (a)) (T % 64 * 3 + 1) (b))))] := hD
  refine lv_aload_n hx hb d_G_note_29 rfl (lv_at hl 1 rfl) ?_
  refine va_get (D := D) (ci := 1) (v := .ref qs) (C := R_G) (T := F_G) (N := 2) hx hb hts wl_G hown hK hP 0 rfl rfl 0 (by decide) (hts _ wf_G_9) (fun _ h9 => h9) rfl d_G_note_30 ?_
  refine lv_iload hx hb d_G_note_33 (lv_at hl 0 rfl) ?_
  refine lv_iconst (v := nI 2) hx hb d_G_note_35 (by decide) ?_
  refine lv_iadd hx hb d_G_note_36 ?_
  refine sd_top (y := nI (T % 64 * 3 + 2)) (nI_add _ _) ?_
  refine lv_iload_n hx hb d_G_note_37 rfl (lv_at hl 4 rfl) ?_
  refine sd_iast (j := T % 64 * 3 + 2) hx hb hK hP hD hS 1 0 rfl rfl (by omega) (by omega) d_G_note_38 (fun H locs hP hD hS => ?_)
  have hP : va_P D cls [(qg, .inr (1, [.ref qs, .int (nI (T))])), (qs, .inl (cI, 192, .inl (upd (upd (upd (g) (T % 64 * 3) (a)) (T % 64 * 3 + 1) (b)) (T % 64 * 3 + 2) (x))))] H := hP
  have hD : va_D A [(qg, .inr (1, [.ref qs, .int (nI (T))])), (qs, .inl (cI, 192, .inl (upd (upd (upd (g) (T % 64 * 3) (a)) (T % 64 * 3 + 1) (b)) (T % 64 * 3 + 2) (x))))] := hD
  refine lv_aload_n hx hb d_G_note_39 rfl (lv_at hl 1 rfl) ?_
  refine lv_dup hx hb d_G_note_40 rfl ?_
  refine va_get (D := D) (ci := 1) (v := .int (nI (T))) (C := R_G) (T := F_G) (N := 2) hx hb hts wl_G hown hK hP 0 rfl rfl 1 (by decide) (hts _ wf_G_13) (fun _ h9 => h9) rfl d_G_note_41 ?_
  refine lv_iconst (v := 1) hx hb d_G_note_44 (by decide) ?_
  refine lv_iadd hx hb d_G_note_45 ?_
  refine sd_top (y := nI (T + 1)) (nI_1 T) ?_
  refine va_put (D := D) (ci := 1) (v := .int (nI (T + 1))) (ty := .int) (C := R_G) (T := F_G) (N := 2) hx hb hts wl_G t_G t_G_ok n_G hown hK hP hD hS 0 rfl rfl 1 (by decide) (hts _ wf_G_13) (fun _ h9 => h9) rfl (by decide +kernel) rfl rfl (Nat.le_of_ble_eq_true rfl) d_G_note_46 (fun H locs hP hD hS => ?_)
  have hP : va_P D cls [(qg, .inr (1, [.ref qs, .int (nI (T + 1))])), (qs, .inl (cI, 192, .inl (upd (upd (upd (g) (T % 64 * 3) (a)) (T % 64 * 3 + 1) (b)) (T % 64 * 3 + 2) (x))))] H := hP
  have hD : va_D A [(qg, .inr (1, [.ref qs, .int (nI (T + 1))])), (qs, .inl (cI, 192, .inl (upd (upd (upd (g) (T % 64 * 3) (a)) (T % 64 * 3 + 1) (b)) (T % 64 * 3 + 2) (x))))] := hD
  have hP : va_P D cls [(qg, .inr (1, [.ref qs, .int (nI (T + 1))])), (qs, .inl (cI, 192, .inl (lg_put g T a b x)))] H := hP
  exact sd_vret hx hb hr hlk hP hS (Nat.le_of_ble_eq_true rfl) (Nat.le_of_ble_eq_true rfl) d_G_note_49
set_option maxHeartbeats 4000000 in
set_option maxRecDepth 100000 in
theorem c_G_look (l : Launch) (D : va_G) (cI cZ cQ : ClassId) (qg : Nat) (qs : Nat) (T : Nat) (g : Nat → Int32) (j : Nat) (w : Nat) (hT : T < 2 ^ 31) (hj : j < T) (hw : w < 3) : sd_I l D (tyL cI cZ cQ) y_G_look b_G_look 3 (.int) ({ frames := 0, cells := 0, slots := 0, locals := 0 }) [.ref qg, .int (nI j), .int (nI w)] [(qg, .inr (1, [.ref qs, .int (nI (T))])), (qs, .inl (cI, 192, .inl (g)))] (g ((T - 1 - j) % 64 * 3 + w)) [(qg, .inr (1, [.ref qs, .int (nI (T))])), (qs, .inl (cI, 192, .inl (g)))] := by
  refine sd_ofI (by decide) (Nat.le_of_ble_eq_true rfl) ?_
  intro p e s m below meth c A ls hx hb hr hml hlk hown hts hK hP hD hA hS hl
  have hl : lv_has ls 3 [(0, .ref qg), (1, .int (nI j)), (2, .int (nI w))] := hl
  have h64 : (T - 1 - j) % 64 < 64 := Nat.mod_lt _ (by omega)
  refine lv_aload_n hx hb d_G_look_0 rfl (lv_at hl 0 rfl) ?_
  refine va_get (D := D) (ci := 1) (v := .ref qs) (C := R_G) (T := F_G) (N := 2) hx hb hts wl_G hown hK hP 0 rfl rfl 0 (by decide) (hts _ wf_G_9) (fun _ h9 => h9) rfl d_G_look_1 ?_
  refine lv_aload_n hx hb d_G_look_4 rfl (lv_at hl 0 rfl) ?_
  refine va_get (D := D) (ci := 1) (v := .int (nI (T))) (C := R_G) (T := F_G) (N := 2) hx hb hts wl_G hown hK hP 0 rfl rfl 1 (by decide) (hts _ wf_G_13) (fun _ h9 => h9) rfl d_G_look_5 ?_
  refine lv_iconst (v := 1) hx hb d_G_look_8 (by decide) ?_
  refine lv_isub hx hb d_G_look_9 ?_
  refine sd_top (y := nI (T - 1)) (ni_pred (by omega)) ?_
  refine lv_iload_n hx hb d_G_look_10 rfl (lv_at hl 1 rfl) ?_
  refine lv_isub hx hb d_G_look_11 ?_
  refine sd_top (y := nI (T - 1 - j)) (pk_sub (by omega)) ?_
  refine lv_bipush (v := nI 64) hx hb d_G_look_12 (by decide) ?_
  refine lv_irem hx hb d_G_look_14 (by decide) ?_
  refine sd_top (y := nI ((T - 1 - j) % 64)) (pk_rem (by omega) (by omega) (by omega)) ?_
  refine lv_iconst (v := nI 3) hx hb d_G_look_15 (by decide) ?_
  refine lv_imul hx hb d_G_look_16 ?_
  refine sd_top (y := nI ((T - 1 - j) % 64 * 3)) (pk_mul _ _) ?_
  refine lv_iload_n hx hb d_G_look_17 rfl (lv_at hl 2 rfl) ?_
  refine lv_iadd hx hb d_G_look_18 ?_
  refine sd_top (y := nI ((T - 1 - j) % 64 * 3 + w)) (nI_add _ _) ?_
  refine sd_iald (j := (T - 1 - j) % 64 * 3 + w) hx hb hK hP 1 0 rfl rfl (by omega) (by omega) d_G_look_19 ?_
  exact sd_iret hx hb hr hlk hP hS (Nat.le_of_ble_eq_true rfl) (Nat.le_of_ble_eq_true rfl) (rfl) d_G_look_20
end
section
/-! the messages: (total, the log's ring, sent in this job, stopped) -/
abbrev ms_T : Type := Nat × (Nat → Int32) × Nat × Int32
def ms_0 (M : ms_T) : ms_T := (M.1, M.2.1, 0, M.2.2.2)
/-- a message is sent, or the job stops -/
def ms_s (lim : Int32) (M : ms_T) (a b x : Int32) : ms_T := if nI M.2.2.1 = lim then (M.1, M.2.1, M.2.2.1, 1) else (M.1 + 1, lg_put M.2.1 M.1 a b x, M.2.2.1 + 1, M.2.2.2)
/-- whether it was sent -/
def ms_r (lim : Int32) (M : ms_T) : Int32 := if nI M.2.2.1 = lim then 0 else 1
theorem ms_sn {lim : Int32} {M : ms_T} {a b x : Int32} (h : nI M.2.2.1 = lim) : ms_s lim M a b x = (M.1, M.2.1, M.2.2.1, 1) := if_pos h
theorem ms_sy {lim : Int32} {M : ms_T} {a b x : Int32} (h : ¬ nI M.2.2.1 = lim) : ms_s lim M a b x = (M.1 + 1, lg_put M.2.1 M.1 a b x, M.2.2.1 + 1, M.2.2.2) := if_neg h
theorem ms_rn {lim : Int32} {M : ms_T} (h : nI M.2.2.1 = lim) : ms_r lim M = 0 := if_pos h
theorem ms_ry {lim : Int32} {M : ms_T} (h : ¬ nI M.2.2.1 = lim) : ms_r lim M = 1 := if_neg h
theorem ms_rz (lim : Int32) (M : ms_T) : narrow .boolean (.int (ms_r lim M)) = .int (ms_r lim M) := by unfold ms_r; split <;> rfl
theorem ms_rf (lim : Int32) (M : ms_T) : fits .boolean (.int (ms_r lim M)) = true := by unfold ms_r; split <;> rfl
theorem d_J_begin_0 : decode b_J_begin 0 = .ok (.aload_n 0, 1) := by decide +kernel
theorem d_J_begin_1 : decode b_J_begin 1 = .ok (.aload_n 0, 1) := by decide +kernel
theorem d_J_begin_2 : decode b_J_begin 2 = .ok (.getfield 18, 3) := by decide +kernel
theorem d_J_begin_5 : decode b_J_begin 5 = .ok (.putfield 32, 3) := by decide +kernel
theorem d_J_begin_8 : decode b_J_begin 8 = .ok (.aload_n 0, 1) := by decide +kernel
theorem d_J_begin_9 : decode b_J_begin 9 = .ok (.iconst (-1), 1) := by decide +kernel
theorem d_J_begin_10 : decode b_J_begin 10 = .ok (.putfield 18, 3) := by decide +kernel
theorem d_J_begin_13 : decode b_J_begin 13 = .ok (.aload_n 0, 1) := by decide +kernel
theorem d_J_begin_14 : decode b_J_begin 14 = .ok (.iconst 0, 1) := by decide +kernel
theorem d_J_begin_15 : decode b_J_begin 15 = .ok (.putfield 29, 3) := by decide +kernel
theorem d_J_begin_18 : decode b_J_begin 18 = .ok (.return_, 1) := by decide +kernel
theorem d_J_send_0 : decode b_J_send 0 = .ok (.aload_n 0, 1) := by decide +kernel
theorem d_J_send_1 : decode b_J_send 1 = .ok (.getfield 29, 3) := by decide +kernel
theorem d_J_send_4 : decode b_J_send 4 = .ok (.aload_n 0, 1) := by decide +kernel
theorem d_J_send_5 : decode b_J_send 5 = .ok (.getfield 32, 3) := by decide +kernel
theorem d_J_send_8 : decode b_J_send 8 = .ok (.if_icmp .ne 10, 3) := by decide +kernel
theorem d_J_send_11 : decode b_J_send 11 = .ok (.aload_n 0, 1) := by decide +kernel
theorem d_J_send_12 : decode b_J_send 12 = .ok (.iconst 1, 1) := by decide +kernel
theorem d_J_send_13 : decode b_J_send 13 = .ok (.putfield 22, 3) := by decide +kernel
theorem d_J_send_16 : decode b_J_send 16 = .ok (.iconst 0, 1) := by decide +kernel
theorem d_J_send_17 : decode b_J_send 17 = .ok (.ireturn, 1) := by decide +kernel
theorem d_J_send_18 : decode b_J_send 18 = .ok (.aload_n 0, 1) := by decide +kernel
theorem d_J_send_19 : decode b_J_send 19 = .ok (.getfield 12, 3) := by decide +kernel
theorem d_J_send_22 : decode b_J_send 22 = .ok (.iload_n 1, 1) := by decide +kernel
theorem d_J_send_23 : decode b_J_send 23 = .ok (.iload_n 2, 1) := by decide +kernel
theorem d_J_send_24 : decode b_J_send 24 = .ok (.iload_n 3, 1) := by decide +kernel
theorem d_J_send_25 : decode b_J_send 25 = .ok (.invokevirtual 41, 3) := by decide +kernel
theorem d_J_send_28 : decode b_J_send 28 = .ok (.aload_n 0, 1) := by decide +kernel
theorem d_J_send_29 : decode b_J_send 29 = .ok (.dup, 1) := by decide +kernel
theorem d_J_send_30 : decode b_J_send 30 = .ok (.getfield 29, 3) := by decide +kernel
theorem d_J_send_33 : decode b_J_send 33 = .ok (.iconst 1, 1) := by decide +kernel
theorem d_J_send_34 : decode b_J_send 34 = .ok (.iadd, 1) := by decide +kernel
theorem d_J_send_35 : decode b_J_send 35 = .ok (.putfield 29, 3) := by decide +kernel
theorem d_J_send_38 : decode b_J_send 38 = .ok (.iconst 1, 1) := by decide +kernel
theorem d_J_send_39 : decode b_J_send 39 = .ok (.ireturn, 1) := by decide +kernel
theorem d_J_flip_0 : decode b_J_flip 0 = .ok (.aload_n 0, 1) := by decide +kernel
theorem d_J_flip_1 : decode b_J_flip 1 = .ok (.aload_n 0, 1) := by decide +kernel
theorem d_J_flip_2 : decode b_J_flip 2 = .ok (.iconst 0, 1) := by decide +kernel
theorem d_J_flip_3 : decode b_J_flip 3 = .ok (.iconst 0, 1) := by decide +kernel
theorem d_J_flip_4 : decode b_J_flip 4 = .ok (.sipush 256, 3) := by decide +kernel
theorem d_J_flip_7 : decode b_J_flip 7 = .ok (.invokevirtual 45, 3) := by decide +kernel
theorem d_J_flip_10 : decode b_J_flip 10 = .ok (.putfield 26, 3) := by decide +kernel
theorem d_J_flip_13 : decode b_J_flip 13 = .ok (.aload_n 0, 1) := by decide +kernel
theorem d_J_flip_14 : decode b_J_flip 14 = .ok (.getfield 26, 3) := by decide +kernel
theorem d_J_flip_17 : decode b_J_flip 17 = .ok (.ireturn, 1) := by decide +kernel
set_option maxHeartbeats 4000000 in
set_option maxRecDepth 100000 in
theorem c_J_begin (l : Launch) (D : va_G) (cI cZ cQ : ClassId) (qj : Nat) (qg : Nat) (qs : Nat) (wi : Int32) (M : ms_T) (hf : Int32) (lim : Int32) (nt : Int32) (lt : Int32) : sd_V l D (tyL cI cZ cQ) y_J_begin b_J_begin 1 ({ frames := 0, cells := 0, slots := 0, locals := 0 }) [.ref qj] [(qj, .inr (2, [.ref qg, .int (wi), .int (M.2.2.2), .int (hf), .int (nI M.2.2.1), .int (lim), .int (nt), .int (lt)])), (qg, .inr (1, [.ref qs, .int (nI (M.1))])), (qs, .inl (cI, 192, .inl (M.2.1)))] [(qj, .inr (2, [.ref qg, .int ((-1)), .int ((ms_0 M).2.2.2), .int (hf), .int (nI (ms_0 M).2.2.1), .int (wi), .int (nt), .int (lt)])), (qg, .inr (1, [.ref qs, .int (nI ((ms_0 M).1))])), (qs, .inl (cI, 192, .inl ((ms_0 M).2.1)))] := by
  refine sd_ofV (by decide) (Nat.le_of_ble_eq_true rfl) ?_
  intro p e s m below meth c A ls hx hb hr hml hlk hown hts hK hP hD hA hS hl
  have hl : lv_has ls 1 [(0, .ref qj)] := hl
  refine lv_aload_n hx hb d_J_begin_0 rfl (lv_at hl 0 rfl) ?_
  refine lv_aload_n hx hb d_J_begin_1 rfl (lv_at hl 0 rfl) ?_
  refine va_get (D := D) (ci := 2) (v := .int (wi)) (C := R_J) (T := F_J) (N := 8) hx hb hts wl_J hown hK hP 0 rfl rfl 1 (by decide) (hts _ wf_J_18) (fun _ h9 => h9) rfl d_J_begin_2 ?_
  refine va_put (D := D) (ci := 2) (v := .int (wi)) (ty := .int) (C := R_J) (T := F_J) (N := 8) hx hb hts wl_J t_J t_J_ok n_J hown hK hP hD hS 0 rfl rfl 5 (by decide) (hts _ wf_J_32) (fun _ h9 => h9) rfl (by decide +kernel) rfl rfl (Nat.le_of_ble_eq_true rfl) d_J_begin_5 (fun H locs hP hD hS => ?_)
  have hP : va_P D cls [(qj, .inr (2, [.ref qg, .int (wi), .int (M.2.2.2), .int (hf), .int (nI M.2.2.1), .int (wi), .int (nt), .int (lt)])), (qg, .inr (1, [.ref qs, .int (nI (M.1))])), (qs, .inl (cI, 192, .inl (M.2.1)))] H := hP
  have hD : va_D A [(qj, .inr (2, [.ref qg, .int (wi), .int (M.2.2.2), .int (hf), .int (nI M.2.2.1), .int (wi), .int (nt), .int (lt)])), (qg, .inr (1, [.ref qs, .int (nI (M.1))])), (qs, .inl (cI, 192, .inl (M.2.1)))] := hD
  refine lv_aload_n hx hb d_J_begin_8 rfl (lv_at hl 0 rfl) ?_
  refine lv_iconst (v := (-1)) hx hb d_J_begin_9 (by decide) ?_
  refine va_put (D := D) (ci := 2) (v := .int ((-1))) (ty := .int) (C := R_J) (T := F_J) (N := 8) hx hb hts wl_J t_J t_J_ok n_J hown hK hP hD hS 0 rfl rfl 1 (by decide) (hts _ wf_J_18) (fun _ h9 => h9) rfl (by decide +kernel) rfl rfl (Nat.le_of_ble_eq_true rfl) d_J_begin_10 (fun H locs hP hD hS => ?_)
  have hP : va_P D cls [(qj, .inr (2, [.ref qg, .int ((-1)), .int (M.2.2.2), .int (hf), .int (nI M.2.2.1), .int (wi), .int (nt), .int (lt)])), (qg, .inr (1, [.ref qs, .int (nI (M.1))])), (qs, .inl (cI, 192, .inl (M.2.1)))] H := hP
  have hD : va_D A [(qj, .inr (2, [.ref qg, .int ((-1)), .int (M.2.2.2), .int (hf), .int (nI M.2.2.1), .int (wi), .int (nt), .int (lt)])), (qg, .inr (1, [.ref qs, .int (nI (M.1))])), (qs, .inl (cI, 192, .inl (M.2.1)))] := hD
  refine lv_aload_n hx hb d_J_begin_13 rfl (lv_at hl 0 rfl) ?_
  refine lv_iconst (v := nI 0) hx hb d_J_begin_14 (by decide) ?_
  refine va_put (D := D) (ci := 2) (v := .int (nI 0)) (ty := .int) (C := R_J) (T := F_J) (N := 8) hx hb hts wl_J t_J t_J_ok n_J hown hK hP hD hS 0 rfl rfl 4 (by decide) (hts _ wf_J_29) (fun _ h9 => h9) rfl (by decide +kernel) rfl rfl (Nat.le_of_ble_eq_true rfl) d_J_begin_15 (fun H locs hP hD hS => ?_)
  have hP : va_P D cls [(qj, .inr (2, [.ref qg, .int ((-1)), .int (M.2.2.2), .int (hf), .int (nI 0), .int (wi), .int (nt), .int (lt)])), (qg, .inr (1, [.ref qs, .int (nI (M.1))])), (qs, .inl (cI, 192, .inl (M.2.1)))] H := hP
  have hD : va_D A [(qj, .inr (2, [.ref qg, .int ((-1)), .int (M.2.2.2), .int (hf), .int (nI 0), .int (wi), .int (nt), .int (lt)])), (qg, .inr (1, [.ref qs, .int (nI (M.1))])), (qs, .inl (cI, 192, .inl (M.2.1)))] := hD
  have hP : va_P D cls [(qj, .inr (2, [.ref qg, .int ((-1)), .int ((ms_0 M).2.2.2), .int (hf), .int (nI (ms_0 M).2.2.1), .int (wi), .int (nt), .int (lt)])), (qg, .inr (1, [.ref qs, .int (nI ((ms_0 M).1))])), (qs, .inl (cI, 192, .inl ((ms_0 M).2.1)))] H := hP
  exact sd_vret hx hb hr hlk hP hS (Nat.le_of_ble_eq_true rfl) (Nat.le_of_ble_eq_true rfl) d_J_begin_18
set_option maxHeartbeats 4000000 in
set_option maxRecDepth 100000 in
theorem c_J_send (l : Launch) (D : va_G) (cI cZ cQ : ClassId) (qj : Nat) (qg : Nat) (qs : Nat) (wi : Int32) (M : ms_T) (hf : Int32) (lim : Int32) (nt : Int32) (lt : Int32) (a : Int32) (b : Int32) (x : Int32) (hT : M.1 < 2 ^ 31) : sd_I l D (tyL cI cZ cQ) y_J_send b_J_send 4 (.boolean) ({ frames := 1, cells := 0, slots := 0, locals := 24 }) [.ref qj, .int (a), .int (b), .int (x)] [(qj, .inr (2, [.ref qg, .int (wi), .int (M.2.2.2), .int (hf), .int (nI M.2.2.1), .int (lim), .int (nt), .int (lt)])), (qg, .inr (1, [.ref qs, .int (nI (M.1))])), (qs, .inl (cI, 192, .inl (M.2.1)))] (ms_r lim M) [(qj, .inr (2, [.ref qg, .int (wi), .int ((ms_s lim M a b x).2.2.2), .int (hf), .int (nI (ms_s lim M a b x).2.2.1), .int (lim), .int (nt), .int (lt)])), (qg, .inr (1, [.ref qs, .int (nI ((ms_s lim M a b x).1))])), (qs, .inl (cI, 192, .inl ((ms_s lim M a b x).2.1)))] := by
  refine sd_ofI (by decide) (Nat.le_of_ble_eq_true rfl) ?_
  intro p e s m below meth c A ls hx hb hr hml hlk hown hts hK hP hD hA hS hl
  have hl : lv_has ls 4 [(0, .ref qj), (1, .int (a)), (2, .int (b)), (3, .int (x))] := hl
  refine lv_aload_n hx hb d_J_send_0 rfl (lv_at hl 0 rfl) ?_
  refine va_get (D := D) (ci := 2) (v := .int (nI M.2.2.1)) (C := R_J) (T := F_J) (N := 8) hx hb hts wl_J hown hK hP 0 rfl rfl 4 (by decide) (hts _ wf_J_29) (fun _ h9 => h9) rfl d_J_send_1 ?_
  refine lv_aload_n hx hb d_J_send_4 rfl (lv_at hl 0 rfl) ?_
  refine va_get (D := D) (ci := 2) (v := .int (lim)) (C := R_J) (T := F_J) (N := 8) hx hb hts wl_J hown hK hP 0 rfl rfl 5 (by decide) (hts _ wf_J_32) (fun _ h9 => h9) rfl d_J_send_5 ?_
  refine lv_icmp_ne (tgt := 18) hx hb d_J_send_8 rfl (fun hc8 => ?_) (fun hc8 => ?_)
  · skip
    refine lv_aload_n hx hb d_J_send_18 rfl (lv_at hl 0 rfl) ?_
    refine va_get (D := D) (ci := 2) (v := .ref qg) (C := R_J) (T := F_J) (N := 8) hx hb hts wl_J hown hK hP 0 rfl rfl 0 (by decide) (hts _ wf_J_12) (fun _ h9 => h9) rfl d_J_send_19 ?_
    refine lv_iload_n hx hb d_J_send_22 rfl (lv_at hl 1 rfl) ?_
    refine lv_iload_n hx hb d_J_send_23 rfl (lv_at hl 2 rfl) ?_
    refine lv_iload_n hx hb d_J_send_24 rfl (lv_at hl 3 rfl) ?_
    refine sd_callVV (As := [.int (a), .int (b), .int (x)]) (rest := []) (cx := [(qg, .inr (1, [.ref qs, .int (nI (M.1))])), (qs, .inl (cI, 192, .inl (M.2.1)))]) (w1 := [(qg, .inr (1, [.ref qs, .int (nI (M.1 + 1))])), (qs, .inl (cI, 192, .inl (lg_put M.2.1 M.1 a b x)))]) (c_G_note l D cI cZ cQ (qg) (qs) (M.1) (M.2.1) (a) (b) (x) (hT)) ⟨wc_G_note, wm_J_41, wi_G, by decide, by decide, show (parseMethodDescriptor y_G_note.desc).map (fun d => d.parameters.length) = some 3 by decide +kernel⟩ wo_G_note wz_G_note hx hb hml hown hts hl.1 ⟨Nat.le_of_ble_eq_true rfl, Nat.le_of_ble_eq_true rfl⟩ ⟨Nat.le_of_ble_eq_true rfl, Nat.le_of_ble_eq_true rfl⟩ hK hP hD hS hA [1, 2] rfl (by decide) rfl rfl (q0 := 0) rfl rfl rfl (Nat.le_of_ble_eq_true rfl) d_J_send_25 (fun H locs hP hD hS => ?_)
    have hP : va_P D cls [(qj, .inr (2, [.ref qg, .int (wi), .int (M.2.2.2), .int (hf), .int (nI M.2.2.1), .int (lim), .int (nt), .int (lt)])), (qg, .inr (1, [.ref qs, .int (nI (M.1 + 1))])), (qs, .inl (cI, 192, .inl (lg_put M.2.1 M.1 a b x)))] H := hP
    have hD : va_D A [(qj, .inr (2, [.ref qg, .int (wi), .int (M.2.2.2), .int (hf), .int (nI M.2.2.1), .int (lim), .int (nt), .int (lt)])), (qg, .inr (1, [.ref qs, .int (nI (M.1 + 1))])), (qs, .inl (cI, 192, .inl (lg_put M.2.1 M.1 a b x)))] := hD
    refine lv_aload_n hx hb d_J_send_28 rfl (lv_at hl 0 rfl) ?_
    refine lv_dup hx hb d_J_send_29 rfl ?_
    refine va_get (D := D) (ci := 2) (v := .int (nI M.2.2.1)) (C := R_J) (T := F_J) (N := 8) hx hb hts wl_J hown hK hP 0 rfl rfl 4 (by decide) (hts _ wf_J_29) (fun _ h9 => h9) rfl d_J_send_30 ?_
    refine lv_iconst (v := 1) hx hb d_J_send_33 (by decide) ?_
    refine lv_iadd hx hb d_J_send_34 ?_
    refine sd_top (y := nI (M.2.2.1 + 1)) (nI_1 _) ?_
    refine va_put (D := D) (ci := 2) (v := .int (nI (M.2.2.1 + 1))) (ty := .int) (C := R_J) (T := F_J) (N := 8) hx hb hts wl_J t_J t_J_ok n_J hown hK hP hD hS 0 rfl rfl 4 (by decide) (hts _ wf_J_29) (fun _ h9 => h9) rfl (by decide +kernel) rfl rfl (Nat.le_of_ble_eq_true rfl) d_J_send_35 (fun H locs hP hD hS => ?_)
    have hP : va_P D cls [(qj, .inr (2, [.ref qg, .int (wi), .int (M.2.2.2), .int (hf), .int (nI (M.2.2.1 + 1)), .int (lim), .int (nt), .int (lt)])), (qg, .inr (1, [.ref qs, .int (nI (M.1 + 1))])), (qs, .inl (cI, 192, .inl (lg_put M.2.1 M.1 a b x)))] H := hP
    have hD : va_D A [(qj, .inr (2, [.ref qg, .int (wi), .int (M.2.2.2), .int (hf), .int (nI (M.2.2.1 + 1)), .int (lim), .int (nt), .int (lt)])), (qg, .inr (1, [.ref qs, .int (nI (M.1 + 1))])), (qs, .inl (cI, 192, .inl (lg_put M.2.1 M.1 a b x)))] := hD
    refine lv_iconst (v := 1) hx hb d_J_send_38 (by decide) ?_
    have hP : va_P D cls [(qj, .inr (2, [.ref qg, .int (wi), .int ((ms_s lim M a b x).2.2.2), .int (hf), .int (nI (ms_s lim M a b x).2.2.1), .int (lim), .int (nt), .int (lt)])), (qg, .inr (1, [.ref qs, .int (nI ((ms_s lim M a b x).1))])), (qs, .inl (cI, 192, .inl ((ms_s lim M a b x).2.1)))] H := by rw [ms_sy hc8]; exact hP
    exact sd_zret hx hb hr hlk hP hS (Nat.le_of_ble_eq_true rfl) (Nat.le_of_ble_eq_true rfl) ((ms_ry hc8).symm) (by decide) d_J_send_39
  · skip
    refine lv_aload_n hx hb d_J_send_11 rfl (lv_at hl 0 rfl) ?_
    refine lv_iconst (v := 1) hx hb d_J_send_12 (by decide) ?_
    refine va_put (D := D) (ci := 2) (v := .int (1)) (ty := .boolean) (C := R_J) (T := F_J) (N := 8) hx hb hts wl_J t_J t_J_ok n_J hown hK hP hD hS 0 rfl rfl 2 (by decide) (hts _ wf_J_22) (fun _ h9 => h9) rfl (by decide +kernel) rfl rfl (Nat.le_of_ble_eq_true rfl) d_J_send_13 (fun H locs hP hD hS => ?_)
    have hP : va_P D cls [(qj, .inr (2, [.ref qg, .int (wi), .int (1), .int (hf), .int (nI M.2.2.1), .int (lim), .int (nt), .int (lt)])), (qg, .inr (1, [.ref qs, .int (nI (M.1))])), (qs, .inl (cI, 192, .inl (M.2.1)))] H := hP
    have hD : va_D A [(qj, .inr (2, [.ref qg, .int (wi), .int (1), .int (hf), .int (nI M.2.2.1), .int (lim), .int (nt), .int (lt)])), (qg, .inr (1, [.ref qs, .int (nI (M.1))])), (qs, .inl (cI, 192, .inl (M.2.1)))] := hD
    refine lv_iconst (v := 0) hx hb d_J_send_16 (by decide) ?_
    have hP : va_P D cls [(qj, .inr (2, [.ref qg, .int (wi), .int ((ms_s lim M a b x).2.2.2), .int (hf), .int (nI (ms_s lim M a b x).2.2.1), .int (lim), .int (nt), .int (lt)])), (qg, .inr (1, [.ref qs, .int (nI ((ms_s lim M a b x).1))])), (qs, .inl (cI, 192, .inl ((ms_s lim M a b x).2.1)))] H := by rw [ms_sn hc8]; exact hP
    exact sd_zret hx hb hr hlk hP hS (Nat.le_of_ble_eq_true rfl) (Nat.le_of_ble_eq_true rfl) ((ms_rn hc8).symm) (by decide) d_J_send_17
set_option maxHeartbeats 4000000 in
set_option maxRecDepth 100000 in
theorem c_J_flip (l : Launch) (D : va_G) (cI cZ cQ : ClassId) (qj : Nat) (qg : Nat) (qs : Nat) (wi : Int32) (M : ms_T) (hf : Int32) (lim : Int32) (nt : Int32) (lt : Int32) (hT : M.1 < 2 ^ 31) : sd_I l D (tyL cI cZ cQ) y_J_flip b_J_flip 1 (.boolean) ({ frames := 2, cells := 0, slots := 0, locals := 47 }) [.ref qj] [(qj, .inr (2, [.ref qg, .int (wi), .int (M.2.2.2), .int (hf), .int (nI M.2.2.1), .int (lim), .int (nt), .int (lt)])), (qg, .inr (1, [.ref qs, .int (nI (M.1))])), (qs, .inl (cI, 192, .inl (M.2.1)))] (ms_r lim M) [(qj, .inr (2, [.ref qg, .int (wi), .int ((ms_s lim M 0 0 256).2.2.2), .int (ms_r lim M), .int (nI (ms_s lim M 0 0 256).2.2.1), .int (lim), .int (nt), .int (lt)])), (qg, .inr (1, [.ref qs, .int (nI ((ms_s lim M 0 0 256).1))])), (qs, .inl (cI, 192, .inl ((ms_s lim M 0 0 256).2.1)))] := by
  refine sd_ofI (by decide) (Nat.le_of_ble_eq_true rfl) ?_
  intro p e s m below meth c A ls hx hb hr hml hlk hown hts hK hP hD hA hS hl
  have hl : lv_has ls 1 [(0, .ref qj)] := hl
  refine lv_aload_n hx hb d_J_flip_0 rfl (lv_at hl 0 rfl) ?_
  refine lv_aload_n hx hb d_J_flip_1 rfl (lv_at hl 0 rfl) ?_
  refine lv_iconst (v := 0) hx hb d_J_flip_2 (by decide) ?_
  refine lv_iconst (v := 0) hx hb d_J_flip_3 (by decide) ?_
  refine lv_sipush (v := 256) hx hb d_J_flip_4 (by decide) ?_
  refine sd_callVI (As := [.int (0), .int (0), .int (256)]) (rest := [.ref qj]) (cx := [(qj, .inr (2, [.ref qg, .int (wi), .int (M.2.2.2), .int (hf), .int (nI M.2.2.1), .int (lim), .int (nt), .int (lt)])), (qg, .inr (1, [.ref qs, .int (nI (M.1))])), (qs, .inl (cI, 192, .inl (M.2.1)))]) (w1 := [(qj, .inr (2, [.ref qg, .int (wi), .int ((ms_s lim M 0 0 256).2.2.2), .int (hf), .int (nI (ms_s lim M 0 0 256).2.2.1), .int (lim), .int (nt), .int (lt)])), (qg, .inr (1, [.ref qs, .int (nI ((ms_s lim M 0 0 256).1))])), (qs, .inl (cI, 192, .inl ((ms_s lim M 0 0 256).2.1)))]) (c_J_send l D cI cZ cQ (qj) (qg) (qs) (wi) (M) (hf) (lim) (nt) (lt) (0) (0) (256) (hT)) ⟨wc_J_send, wm_J_45, wi_J, by decide, by decide, show (parseMethodDescriptor y_J_send.desc).map (fun d => d.parameters.length) = some 3 by decide +kernel⟩ wo_J_send wz_J_send hx hb hml hown hts hl.1 ⟨Nat.le_of_ble_eq_true rfl, Nat.le_of_ble_eq_true rfl⟩ ⟨Nat.le_of_ble_eq_true rfl, Nat.le_of_ble_eq_true rfl⟩ hK hP hD hS hA [0, 1, 2] rfl (by decide) rfl rfl (q0 := 0) rfl rfl rfl (Nat.le_of_ble_eq_true rfl) d_J_flip_7 (fun H locs hP hD hS => ?_)
  have hP : va_P D cls [(qj, .inr (2, [.ref qg, .int (wi), .int ((ms_s lim M 0 0 256).2.2.2), .int (hf), .int (nI (ms_s lim M 0 0 256).2.2.1), .int (lim), .int (nt), .int (lt)])), (qg, .inr (1, [.ref qs, .int (nI ((ms_s lim M 0 0 256).1))])), (qs, .inl (cI, 192, .inl ((ms_s lim M 0 0 256).2.1)))] H := hP
  have hD : va_D A [(qj, .inr (2, [.ref qg, .int (wi), .int ((ms_s lim M 0 0 256).2.2.2), .int (hf), .int (nI (ms_s lim M 0 0 256).2.2.1), .int (lim), .int (nt), .int (lt)])), (qg, .inr (1, [.ref qs, .int (nI ((ms_s lim M 0 0 256).1))])), (qs, .inl (cI, 192, .inl ((ms_s lim M 0 0 256).2.1)))] := hD
  refine va_put (D := D) (ci := 2) (v := .int (ms_r lim M)) (ty := .boolean) (C := R_J) (T := F_J) (N := 8) hx hb hts wl_J t_J t_J_ok n_J hown hK hP hD hS 0 rfl rfl 3 (by decide) (hts _ wf_J_26) (fun _ h9 => h9) rfl (by decide +kernel) (ms_rz lim M) (ms_rf lim M) (Nat.le_of_ble_eq_true rfl) d_J_flip_10 (fun H locs hP hD hS => ?_)
  have hP : va_P D cls [(qj, .inr (2, [.ref qg, .int (wi), .int ((ms_s lim M 0 0 256).2.2.2), .int (ms_r lim M), .int (nI (ms_s lim M 0 0 256).2.2.1), .int (lim), .int (nt), .int (lt)])), (qg, .inr (1, [.ref qs, .int (nI ((ms_s lim M 0 0 256).1))])), (qs, .inl (cI, 192, .inl ((ms_s lim M 0 0 256).2.1)))] H := hP
  have hD : va_D A [(qj, .inr (2, [.ref qg, .int (wi), .int ((ms_s lim M 0 0 256).2.2.2), .int (ms_r lim M), .int (nI (ms_s lim M 0 0 256).2.2.1), .int (lim), .int (nt), .int (lt)])), (qg, .inr (1, [.ref qs, .int (nI ((ms_s lim M 0 0 256).1))])), (qs, .inl (cI, 192, .inl ((ms_s lim M 0 0 256).2.1)))] := hD
  refine lv_aload_n hx hb d_J_flip_13 rfl (lv_at hl 0 rfl) ?_
  refine va_get (D := D) (ci := 2) (v := .int (ms_r lim M)) (C := R_J) (T := F_J) (N := 8) hx hb hts wl_J hown hK hP 0 rfl rfl 3 (by decide) (hts _ wf_J_26) (fun _ h9 => h9) rfl d_J_flip_14 ?_
  exact sd_zret hx hb hr hlk hP hS (Nat.le_of_ble_eq_true rfl) (Nat.le_of_ble_eq_true rfl) (rfl) (ms_rz lim M) d_J_flip_17
end
section
def ms_u (M : ms_T) : ms_T := (M.1, M.2.1, M.2.2.1, 0)
/-- k boxes from b on are told to tidy -/
def ms_t (lim : Int32) : Nat → Nat → ms_T → ms_T
  | 0, _, M => M
  | k + 1, b, M => ms_t lim k (b + 1) (ms_s lim M 0 (nI b) 257)
/-- .. and the first that was not -/
def ms_n (lim : Int32) : Nat → Nat → ms_T → Nat → Nat
  | 0, _, _, n => n
  | k + 1, b, M, n => ms_n lim k (b + 1) (ms_s lim M 0 (nI b) 257) (if nI M.2.2.1 = lim then n else b + 1)
theorem ms_tS {lim : Int32} {g b : Nat} {M : ms_T} (h : b ≤ g) : ms_t lim (g + 1 - b) b M = ms_t lim (g + 1 - (b + 1)) (b + 1) (ms_s lim M 0 (nI b) 257) := by
  rw [show g + 1 - b = (g + 1 - (b + 1)) + 1 by omega]; rfl
theorem ms_nS {lim : Int32} {g b n : Nat} {M : ms_T} (h : b ≤ g) : ms_n lim (g + 1 - b) b M n = ms_n lim (g + 1 - (b + 1)) (b + 1) (ms_s lim M 0 (nI b) 257) (if nI M.2.2.1 = lim then n else b + 1) := by
  rw [show g + 1 - b = (g + 1 - (b + 1)) + 1 by omega]; rfl
theorem ms_r0 {lim : Int32} {M : ms_T} : ms_r lim M = 0 ↔ nI M.2.2.1 = lim := by
  unfold ms_r
  by_cases h : nI M.2.2.1 = lim
  · rw [if_pos h]; exact ⟨fun _ => h, fun _ => rfl⟩
  · rw [if_neg h]; exact ⟨fun h2 => absurd h2 (by decide), fun h2 => absurd h2 h⟩
theorem ms_b (lim : Int32) (M : ms_T) (a b x : Int32) : (ms_s lim M a b x).1 ≤ M.1 + 1 := by
  unfold ms_s
  split
  · exact Nat.le_succ _
  · exact Nat.le_refl _
/-- v in the first j places -/
def ar_f (v : Int32) (j : Nat) (f : Nat → Int32) : Nat → Int32 := fun i => if i < j then v else f i
theorem ar_f0 (v : Int32) (f : Nat → Int32) : ar_f v 0 f = f := funext fun i => if_neg (Nat.not_lt_zero i)
theorem ar_fS (v : Int32) (j : Nat) (f : Nat → Int32) : upd (ar_f v j f) j v = ar_f v (j + 1) f := by
  funext i
  unfold upd ar_f
  by_cases h : i = j
  · rw [if_pos h, if_pos (by omega)]
  · rw [if_neg h]
    by_cases h2 : i < j
    · rw [if_pos h2, if_pos (by omega)]
    · rw [if_neg h2, if_neg (by omega)]
theorem d_J_tidy_0 : decode b_J_tidy 0 = .ok (.aload_n 0, 1) := by decide +kernel
theorem d_J_tidy_1 : decode b_J_tidy 1 = .ok (.iload_n 1, 1) := by decide +kernel
theorem d_J_tidy_2 : decode b_J_tidy 2 = .ok (.putfield 35, 3) := by decide +kernel
theorem d_J_tidy_5 : decode b_J_tidy 5 = .ok (.aload_n 0, 1) := by decide +kernel
theorem d_J_tidy_6 : decode b_J_tidy 6 = .ok (.iload_n 2, 1) := by decide +kernel
theorem d_J_tidy_7 : decode b_J_tidy 7 = .ok (.putfield 38, 3) := by decide +kernel
theorem d_J_tidy_10 : decode b_J_tidy 10 = .ok (.iload_n 1, 1) := by decide +kernel
theorem d_J_tidy_11 : decode b_J_tidy 11 = .ok (.istore_n 3, 1) := by decide +kernel
theorem d_J_tidy_12 : decode b_J_tidy 12 = .ok (.iload_n 3, 1) := by decide +kernel
theorem d_J_tidy_13 : decode b_J_tidy 13 = .ok (.iload_n 2, 1) := by decide +kernel
theorem d_J_tidy_14 : decode b_J_tidy 14 = .ok (.if_icmp .gt 28, 3) := by decide +kernel
theorem d_J_tidy_17 : decode b_J_tidy 17 = .ok (.aload_n 0, 1) := by decide +kernel
theorem d_J_tidy_18 : decode b_J_tidy 18 = .ok (.iconst 0, 1) := by decide +kernel
theorem d_J_tidy_19 : decode b_J_tidy 19 = .ok (.iload_n 3, 1) := by decide +kernel
theorem d_J_tidy_20 : decode b_J_tidy 20 = .ok (.sipush 257, 3) := by decide +kernel
theorem d_J_tidy_23 : decode b_J_tidy 23 = .ok (.invokevirtual 45, 3) := by decide +kernel
theorem d_J_tidy_26 : decode b_J_tidy 26 = .ok (.ifCond .eq 10, 3) := by decide +kernel
theorem d_J_tidy_29 : decode b_J_tidy 29 = .ok (.aload_n 0, 1) := by decide +kernel
theorem d_J_tidy_30 : decode b_J_tidy 30 = .ok (.iload_n 3, 1) := by decide +kernel
theorem d_J_tidy_31 : decode b_J_tidy 31 = .ok (.iconst 1, 1) := by decide +kernel
theorem d_J_tidy_32 : decode b_J_tidy 32 = .ok (.iadd, 1) := by decide +kernel
theorem d_J_tidy_33 : decode b_J_tidy 33 = .ok (.putfield 35, 3) := by decide +kernel
theorem d_J_tidy_36 : decode b_J_tidy 36 = .ok (.iinc 3 1, 3) := by decide +kernel
theorem d_J_tidy_39 : decode b_J_tidy 39 = .ok (.goto (-27), 3) := by decide +kernel
theorem d_J_tidy_42 : decode b_J_tidy 42 = .ok (.return_, 1) := by decide +kernel
theorem d_J_finish_0 : decode b_J_finish 0 = .ok (.aload_n 0, 1) := by decide +kernel
theorem d_J_finish_1 : decode b_J_finish 1 = .ok (.iconst 0, 1) := by decide +kernel
theorem d_J_finish_2 : decode b_J_finish 2 = .ok (.putfield 22, 3) := by decide +kernel
theorem d_J_finish_5 : decode b_J_finish 5 = .ok (.aload_n 0, 1) := by decide +kernel
theorem d_J_finish_6 : decode b_J_finish 6 = .ok (.iconst (-1), 1) := by decide +kernel
theorem d_J_finish_7 : decode b_J_finish 7 = .ok (.putfield 32, 3) := by decide +kernel
theorem d_J_finish_10 : decode b_J_finish 10 = .ok (.aload_n 0, 1) := by decide +kernel
theorem d_J_finish_11 : decode b_J_finish 11 = .ok (.aload_n 0, 1) := by decide +kernel
theorem d_J_finish_12 : decode b_J_finish 12 = .ok (.getfield 35, 3) := by decide +kernel
theorem d_J_finish_15 : decode b_J_finish 15 = .ok (.aload_n 0, 1) := by decide +kernel
theorem d_J_finish_16 : decode b_J_finish 16 = .ok (.getfield 38, 3) := by decide +kernel
theorem d_J_finish_19 : decode b_J_finish 19 = .ok (.invokevirtual 49, 3) := by decide +kernel
theorem d_J_finish_22 : decode b_J_finish 22 = .ok (.return_, 1) := by decide +kernel
theorem d_A_fill_0 : decode b_A_fill 0 = .ok (.iconst 0, 1) := by decide +kernel
theorem d_A_fill_1 : decode b_A_fill 1 = .ok (.istore_n 2, 1) := by decide +kernel
theorem d_A_fill_2 : decode b_A_fill 2 = .ok (.aload_n 0, 1) := by decide +kernel
theorem d_A_fill_3 : decode b_A_fill 3 = .ok (.arraylength, 1) := by decide +kernel
theorem d_A_fill_4 : decode b_A_fill 4 = .ok (.istore_n 3, 1) := by decide +kernel
theorem d_A_fill_5 : decode b_A_fill 5 = .ok (.iload_n 2, 1) := by decide +kernel
theorem d_A_fill_6 : decode b_A_fill 6 = .ok (.iload_n 3, 1) := by decide +kernel
theorem d_A_fill_7 : decode b_A_fill 7 = .ok (.if_icmp .ge 13, 3) := by decide +kernel
theorem d_A_fill_10 : decode b_A_fill 10 = .ok (.aload_n 0, 1) := by decide +kernel
theorem d_A_fill_11 : decode b_A_fill 11 = .ok (.iload_n 2, 1) := by decide +kernel
theorem d_A_fill_12 : decode b_A_fill 12 = .ok (.iload_n 1, 1) := by decide +kernel
theorem d_A_fill_13 : decode b_A_fill 13 = .ok (.iastore, 1) := by decide +kernel
theorem d_A_fill_14 : decode b_A_fill 14 = .ok (.iinc 2 1, 3) := by decide +kernel
theorem d_A_fill_17 : decode b_A_fill 17 = .ok (.goto (-12), 3) := by decide +kernel
theorem d_A_fill_20 : decode b_A_fill 20 = .ok (.return_, 1) := by decide +kernel
set_option maxHeartbeats 4000000 in
set_option maxRecDepth 100000 in
theorem c_J_tidy (l : Launch) (D : va_G) (cI cZ cQ : ClassId) (qj : Nat) (qg : Nat) (qs : Nat) (wi : Int32) (M : ms_T) (hf : Int32) (lim : Int32) (nt : Int32) (lt : Int32) (f : Nat) (g : Nat) (hT : M.1 + (g + 1 - f) < 2 ^ 31) (hf1 : f < 2 ^ 30) (hg1 : g < 2 ^ 30) : sd_V l D (tyL cI cZ cQ) y_J_tidy b_J_tidy 4 ({ frames := 2, cells := 0, slots := 0, locals := 47 }) [.ref qj, .int (nI f), .int (nI g)] [(qj, .inr (2, [.ref qg, .int (wi), .int (M.2.2.2), .int (hf), .int (nI M.2.2.1), .int (lim), .int (nt), .int (lt)])), (qg, .inr (1, [.ref qs, .int (nI (M.1))])), (qs, .inl (cI, 192, .inl (M.2.1)))] [(qj, .inr (2, [.ref qg, .int (wi), .int ((ms_t lim (g + 1 - f) f M).2.2.2), .int (hf), .int (nI (ms_t lim (g + 1 - f) f M).2.2.1), .int (lim), .int (nI (ms_n lim (g + 1 - f) f M f)), .int (nI g)])), (qg, .inr (1, [.ref qs, .int (nI ((ms_t lim (g + 1 - f) f M).1))])), (qs, .inl (cI, 192, .inl ((ms_t lim (g + 1 - f) f M).2.1)))] := by
  refine sd_ofV (by decide) (Nat.le_of_ble_eq_true rfl) ?_
  intro p e s m below meth c A ls hx hb hr hml hlk hown hts hK hP hD hA hS hl
  have hl : lv_has ls 4 [(0, .ref qj), (1, .int (nI f)), (2, .int (nI g))] := hl
  refine lv_aload_n hx hb d_J_tidy_0 rfl (lv_at hl 0 rfl) ?_
  refine lv_iload_n hx hb d_J_tidy_1 rfl (lv_at hl 1 rfl) ?_
  refine va_put (D := D) (ci := 2) (v := .int (nI f)) (ty := .int) (C := R_J) (T := F_J) (N := 8) hx hb hts wl_J t_J t_J_ok n_J hown hK hP hD hS 0 rfl rfl 6 (by decide) (hts _ wf_J_35) (fun _ h9 => h9) rfl (by decide +kernel) rfl rfl (Nat.le_of_ble_eq_true rfl) d_J_tidy_2 (fun H locs hP hD hS => ?_)
  have hP : va_P D cls [(qj, .inr (2, [.ref qg, .int (wi), .int (M.2.2.2), .int (hf), .int (nI M.2.2.1), .int (lim), .int (nI f), .int (lt)])), (qg, .inr (1, [.ref qs, .int (nI (M.1))])), (qs, .inl (cI, 192, .inl (M.2.1)))] H := hP
  have hD : va_D A [(qj, .inr (2, [.ref qg, .int (wi), .int (M.2.2.2), .int (hf), .int (nI M.2.2.1), .int (lim), .int (nI f), .int (lt)])), (qg, .inr (1, [.ref qs, .int (nI (M.1))])), (qs, .inl (cI, 192, .inl (M.2.1)))] := hD
  refine lv_aload_n hx hb d_J_tidy_5 rfl (lv_at hl 0 rfl) ?_
  refine lv_iload_n hx hb d_J_tidy_6 rfl (lv_at hl 2 rfl) ?_
  refine va_put (D := D) (ci := 2) (v := .int (nI g)) (ty := .int) (C := R_J) (T := F_J) (N := 8) hx hb hts wl_J t_J t_J_ok n_J hown hK hP hD hS 0 rfl rfl 7 (by decide) (hts _ wf_J_38) (fun _ h9 => h9) rfl (by decide +kernel) rfl rfl (Nat.le_of_ble_eq_true rfl) d_J_tidy_7 (fun H locs hP hD hS => ?_)
  have hP : va_P D cls [(qj, .inr (2, [.ref qg, .int (wi), .int (M.2.2.2), .int (hf), .int (nI M.2.2.1), .int (lim), .int (nI f), .int (nI g)])), (qg, .inr (1, [.ref qs, .int (nI (M.1))])), (qs, .inl (cI, 192, .inl (M.2.1)))] H := hP
  have hD : va_D A [(qj, .inr (2, [.ref qg, .int (wi), .int (M.2.2.2), .int (hf), .int (nI M.2.2.1), .int (lim), .int (nI f), .int (nI g)])), (qg, .inr (1, [.ref qs, .int (nI (M.1))])), (qs, .inl (cI, 192, .inl (M.2.1)))] := hD
  refine lv_iload_n hx hb d_J_tidy_10 rfl (lv_at hl 1 rfl) ?_
  refine lv_istore_n hx hb d_J_tidy_11 rfl hl (Nat.le_of_ble_eq_true rfl) (lv' := [(3, .int (nI f)), (0, .ref qj), (1, .int (nI f)), (2, .int (nI g))]) rfl (fun ls hl => ?_)
  have hl := lv_sub hl (l' := [(0, .ref qj), (1, .int (nI f)), (2, .int (nI g)), (3, .int (nI f))]) [1, 2, 3, 0] rfl
  have loop12 : ∀ (d : Nat) (b : Nat) (M2 : ms_T) (n2 : Nat) (ls : Array Slot) (H : Heap) (locs : List Loc), g + 1 - b = d → (M2.1 + (g + 1 - b) < 2 ^ 31) → (b < 2 ^ 31) → (ms_t lim (g + 1 - b) b M2 = ms_t lim (g + 1 - f) f M) → (ms_n lim (g + 1 - b) b M2 n2 = ms_n lim (g + 1 - f) f M f) → lv_has ls 4 [(0, .ref qj), (1, .int (nI f)), (2, .int (nI g)), (3, .int (nI (b)))] → va_P D cls [(qj, .inr (2, [.ref qg, .int (wi), .int (M2.2.2.2), .int (hf), .int (nI M2.2.2.1), .int (lim), .int (nI n2), .int (nI g)])), (qg, .inr (1, [.ref qs, .int (nI (M2.1))])), (qs, .inl (cI, 192, .inl (M2.2.1)))] H → va_D A [(qj, .inr (2, [.ref qg, .int (wi), .int (M2.2.2.2), .int (hf), .int (nI M2.2.2.1), .int (lim), .int (nI n2), .int (nI g)])), (qg, .inr (1, [.ref qs, .int (nI (M2.1))])), (qs, .inl (cI, 192, .inl (M2.2.1)))] → va_S A s.heap H locs → W p l e ({ frames := 2, cells := 0, slots := 0, locals := 47 }) s m ([.ref qj, .int (nI f), .int (nI g)] : List Value).toArray below meth c H locs 0 0 (MQ below (sd_qv D [(qj, .inr (2, [.ref qg, .int (wi), .int ((ms_t lim (g + 1 - f) f M).2.2.2), .int (hf), .int (nI (ms_t lim (g + 1 - f) f M).2.2.1), .int (lim), .int (nI (ms_n lim (g + 1 - f) f M f)), .int (nI g)])), (qg, .inr (1, [.ref qs, .int (nI ((ms_t lim (g + 1 - f) f M).1))])), (qs, .inl (cI, 192, .inl ((ms_t lim (g + 1 - f) f M).2.1)))] A) ([.ref qj, .int (nI f), .int (nI g)] : List Value).toArray s 0 0 A) (F0 m 12 ls []) := by
    intro d
    induction d using Nat.strongRecOn with
    | _ d ih12 =>
    intro b M2 n2 ls H locs hd hT2 hb3 hM hn hl hP hD hS
    subst hd
    refine lv_iload_n hx hb d_J_tidy_12 rfl (lv_at hl 3 rfl) ?_
    refine lv_iload_n hx hb d_J_tidy_13 rfl (lv_at hl 2 rfl) ?_
    refine lv_icmp_gt (tgt := 42) hx hb d_J_tidy_14 rfl (fun hc14 => ?_) (fun hc14 => ?_)
    · skip
      rw [nI_ltI (by omega) (by omega)] at hc14
      have h0 : g + 1 - b = 0 := by omega
      rw [h0] at hM hn
      have hP : va_P D cls [(qj, .inr (2, [.ref qg, .int (wi), .int ((ms_t lim (g + 1 - f) f M).2.2.2), .int (hf), .int (nI (ms_t lim (g + 1 - f) f M).2.2.1), .int (lim), .int (nI (ms_n lim (g + 1 - f) f M f)), .int (nI g)])), (qg, .inr (1, [.ref qs, .int (nI ((ms_t lim (g + 1 - f) f M).1))])), (qs, .inl (cI, 192, .inl ((ms_t lim (g + 1 - f) f M).2.1)))] H := by rw [← hM, ← hn]; exact hP
      exact sd_vret hx hb hr hlk hP hS (Nat.le_of_ble_eq_true rfl) (Nat.le_of_ble_eq_true rfl) d_J_tidy_42
    · skip
      have hbg : b ≤ g := by
        rw [nI_ltI (by omega) (by omega)] at hc14
        omega
      have hMn : ms_t lim (g + 1 - (b + 1)) (b + 1) (ms_s lim M2 0 (nI b) 257) = ms_t lim (g + 1 - f) f M := by rw [← hM, ms_tS hbg]
      have hTn : (ms_s lim M2 0 (nI b) 257).1 + (g + 1 - (b + 1)) < 2 ^ 31 := by
        have := ms_b lim M2 0 (nI b) 257
        omega
      refine lv_aload_n hx hb d_J_tidy_17 rfl (lv_at hl 0 rfl) ?_
      refine lv_iconst (v := 0) hx hb d_J_tidy_18 (by decide) ?_
      refine lv_iload_n hx hb d_J_tidy_19 rfl (lv_at hl 3 rfl) ?_
      refine lv_sipush (v := 257) hx hb d_J_tidy_20 (by decide) ?_
      refine sd_callVI (As := [.int (0), .int (nI b), .int (257)]) (rest := []) (cx := [(qj, .inr (2, [.ref qg, .int (wi), .int (M2.2.2.2), .int (hf), .int (nI M2.2.2.1), .int (lim), .int (nI n2), .int (nI g)])), (qg, .inr (1, [.ref qs, .int (nI (M2.1))])), (qs, .inl (cI, 192, .inl (M2.2.1)))]) (w1 := [(qj, .inr (2, [.ref qg, .int (wi), .int ((ms_s lim M2 0 (nI b) 257).2.2.2), .int (hf), .int (nI (ms_s lim M2 0 (nI b) 257).2.2.1), .int (lim), .int (nI n2), .int (nI g)])), (qg, .inr (1, [.ref qs, .int (nI ((ms_s lim M2 0 (nI b) 257).1))])), (qs, .inl (cI, 192, .inl ((ms_s lim M2 0 (nI b) 257).2.1)))]) (c_J_send l D cI cZ cQ (qj) (qg) (qs) (wi) (M2) (hf) (lim) (nI n2) (nI g) (0) (nI b) (257) (by omega)) ⟨wc_J_send, wm_J_45, wi_J, by decide, by decide, show (parseMethodDescriptor y_J_send.desc).map (fun d => d.parameters.length) = some 3 by decide +kernel⟩ wo_J_send wz_J_send hx hb hml hown hts hl.1 ⟨Nat.le_of_ble_eq_true rfl, Nat.le_of_ble_eq_true rfl⟩ ⟨Nat.le_of_ble_eq_true rfl, Nat.le_of_ble_eq_true rfl⟩ hK hP hD hS hA [0, 1, 2] rfl (by decide) rfl rfl (q0 := 0) rfl rfl rfl (Nat.le_of_ble_eq_true rfl) d_J_tidy_23 (fun H locs hP hD hS => ?_)
      have hP : va_P D cls [(qj, .inr (2, [.ref qg, .int (wi), .int ((ms_s lim M2 0 (nI b) 257).2.2.2), .int (hf), .int (nI (ms_s lim M2 0 (nI b) 257).2.2.1), .int (lim), .int (nI n2), .int (nI g)])), (qg, .inr (1, [.ref qs, .int (nI ((ms_s lim M2 0 (nI b) 257).1))])), (qs, .inl (cI, 192, .inl ((ms_s lim M2 0 (nI b) 257).2.1)))] H := hP
      have hD : va_D A [(qj, .inr (2, [.ref qg, .int (wi), .int ((ms_s lim M2 0 (nI b) 257).2.2.2), .int (hf), .int (nI (ms_s lim M2 0 (nI b) 257).2.2.1), .int (lim), .int (nI n2), .int (nI g)])), (qg, .inr (1, [.ref qs, .int (nI ((ms_s lim M2 0 (nI b) 257).1))])), (qs, .inl (cI, 192, .inl ((ms_s lim M2 0 (nI b) 257).2.1)))] := hD
      refine lv_if_eq (tgt := 36) hx hb d_J_tidy_26 rfl (fun hc26 => ?_) (fun hc26 => ?_)
      · skip
        have hnn : ms_n lim (g + 1 - (b + 1)) (b + 1) (ms_s lim M2 0 (nI b) 257) n2 = ms_n lim (g + 1 - f) f M f := by rw [← hn, ms_nS hbg, if_pos (ms_r0.mp hc26)]
        refine lv_iinc hx hb d_J_tidy_36 hl (k := 3) rfl (v := nI (b + 1)) (ii_1 _) (Nat.le_of_ble_eq_true rfl) (lv' := [(3, .int (nI (b + 1))), (0, .ref qj), (1, .int (nI f)), (2, .int (nI g))]) rfl (fun ls hl => ?_)
        refine lv_goto (tgt := 12) hx hb d_J_tidy_39 rfl ?_
        have hl := lv_sub hl (l' := [(0, .ref qj), (1, .int (nI f)), (2, .int (nI g)), (3, .int (nI (b + 1)))]) [1, 2, 3, 0] rfl
        exact ih12 _ (by omega) (b + 1) _ _ ls _ _ rfl (hTn) (by omega) (hMn) (hnn) hl hP hD hS
      · skip
        have hnn : ms_n lim (g + 1 - (b + 1)) (b + 1) (ms_s lim M2 0 (nI b) 257) (b + 1) = ms_n lim (g + 1 - f) f M f := by rw [← hn, ms_nS hbg, if_neg (fun h => hc26 (ms_r0.mpr h))]
        refine lv_aload_n hx hb d_J_tidy_29 rfl (lv_at hl 0 rfl) ?_
        refine lv_iload_n hx hb d_J_tidy_30 rfl (lv_at hl 3 rfl) ?_
        refine lv_iconst (v := 1) hx hb d_J_tidy_31 (by decide) ?_
        refine lv_iadd hx hb d_J_tidy_32 ?_
        refine sd_top (y := nI (b + 1)) (nI_1 b) ?_
        refine va_put (D := D) (ci := 2) (v := .int (nI (b + 1))) (ty := .int) (C := R_J) (T := F_J) (N := 8) hx hb hts wl_J t_J t_J_ok n_J hown hK hP hD hS 0 rfl rfl 6 (by decide) (hts _ wf_J_35) (fun _ h9 => h9) rfl (by decide +kernel) rfl rfl (Nat.le_of_ble_eq_true rfl) d_J_tidy_33 (fun H locs hP hD hS => ?_)
        have hP : va_P D cls [(qj, .inr (2, [.ref qg, .int (wi), .int ((ms_s lim M2 0 (nI b) 257).2.2.2), .int (hf), .int (nI (ms_s lim M2 0 (nI b) 257).2.2.1), .int (lim), .int (nI (b + 1)), .int (nI g)])), (qg, .inr (1, [.ref qs, .int (nI ((ms_s lim M2 0 (nI b) 257).1))])), (qs, .inl (cI, 192, .inl ((ms_s lim M2 0 (nI b) 257).2.1)))] H := hP
        have hD : va_D A [(qj, .inr (2, [.ref qg, .int (wi), .int ((ms_s lim M2 0 (nI b) 257).2.2.2), .int (hf), .int (nI (ms_s lim M2 0 (nI b) 257).2.2.1), .int (lim), .int (nI (b + 1)), .int (nI g)])), (qg, .inr (1, [.ref qs, .int (nI ((ms_s lim M2 0 (nI b) 257).1))])), (qs, .inl (cI, 192, .inl ((ms_s lim M2 0 (nI b) 257).2.1)))] := hD
        refine lv_iinc hx hb d_J_tidy_36 hl (k := 3) rfl (v := nI (b + 1)) (ii_1 _) (Nat.le_of_ble_eq_true rfl) (lv' := [(3, .int (nI (b + 1))), (0, .ref qj), (1, .int (nI f)), (2, .int (nI g))]) rfl (fun ls hl => ?_)
        refine lv_goto (tgt := 12) hx hb d_J_tidy_39 rfl ?_
        have hl := lv_sub hl (l' := [(0, .ref qj), (1, .int (nI f)), (2, .int (nI g)), (3, .int (nI (b + 1)))]) [1, 2, 3, 0] rfl
        exact ih12 _ (by omega) (b + 1) _ _ ls _ _ rfl (hTn) (by omega) (hMn) (hnn) hl hP hD hS
  exact loop12 _ (f) (M) (f) ls _ _ rfl (hT) (by omega) (rfl) (rfl) hl hP hD hS
set_option maxHeartbeats 4000000 in
set_option maxRecDepth 100000 in
theorem c_J_finish (l : Launch) (D : va_G) (cI cZ cQ : ClassId) (qj : Nat) (qg : Nat) (qs : Nat) (wi : Int32) (M : ms_T) (hf : Int32) (lim : Int32) (f : Nat) (g : Nat) (hT : M.1 + (g + 1 - f) < 2 ^ 31) (hf1 : f < 2 ^ 30) (hg1 : g < 2 ^ 30) : sd_V l D (tyL cI cZ cQ) y_J_finish b_J_finish 1 ({ frames := 3, cells := 0, slots := 0, locals := 70 }) [.ref qj] [(qj, .inr (2, [.ref qg, .int (wi), .int (M.2.2.2), .int (hf), .int (nI M.2.2.1), .int (lim), .int (nI f), .int (nI g)])), (qg, .inr (1, [.ref qs, .int (nI (M.1))])), (qs, .inl (cI, 192, .inl (M.2.1)))] [(qj, .inr (2, [.ref qg, .int (wi), .int ((ms_t (-1) (g + 1 - f) f (ms_u M)).2.2.2), .int (hf), .int (nI (ms_t (-1) (g + 1 - f) f (ms_u M)).2.2.1), .int ((-1)), .int (nI (ms_n (-1) (g + 1 - f) f (ms_u M) f)), .int (nI g)])), (qg, .inr (1, [.ref qs, .int (nI ((ms_t (-1) (g + 1 - f) f (ms_u M)).1))])), (qs, .inl (cI, 192, .inl ((ms_t (-1) (g + 1 - f) f (ms_u M)).2.1)))] := by
  refine sd_ofV (by decide) (Nat.le_of_ble_eq_true rfl) ?_
  intro p e s m below meth c A ls hx hb hr hml hlk hown hts hK hP hD hA hS hl
  have hl : lv_has ls 1 [(0, .ref qj)] := hl
  refine lv_aload_n hx hb d_J_finish_0 rfl (lv_at hl 0 rfl) ?_
  refine lv_iconst (v := 0) hx hb d_J_finish_1 (by decide) ?_
  refine va_put (D := D) (ci := 2) (v := .int (0)) (ty := .boolean) (C := R_J) (T := F_J) (N := 8) hx hb hts wl_J t_J t_J_ok n_J hown hK hP hD hS 0 rfl rfl 2 (by decide) (hts _ wf_J_22) (fun _ h9 => h9) rfl (by decide +kernel) rfl rfl (Nat.le_of_ble_eq_true rfl) d_J_finish_2 (fun H locs hP hD hS => ?_)
  have hP : va_P D cls [(qj, .inr (2, [.ref qg, .int (wi), .int (0), .int (hf), .int (nI M.2.2.1), .int (lim), .int (nI f), .int (nI g)])), (qg, .inr (1, [.ref qs, .int (nI (M.1))])), (qs, .inl (cI, 192, .inl (M.2.1)))] H := hP
  have hD : va_D A [(qj, .inr (2, [.ref qg, .int (wi), .int (0), .int (hf), .int (nI M.2.2.1), .int (lim), .int (nI f), .int (nI g)])), (qg, .inr (1, [.ref qs, .int (nI (M.1))])), (qs, .inl (cI, 192, .inl (M.2.1)))] := hD
  refine lv_aload_n hx hb d_J_finish_5 rfl (lv_at hl 0 rfl) ?_
  refine lv_iconst (v := (-1)) hx hb d_J_finish_6 (by decide) ?_
  refine va_put (D := D) (ci := 2) (v := .int ((-1))) (ty := .int) (C := R_J) (T := F_J) (N := 8) hx hb hts wl_J t_J t_J_ok n_J hown hK hP hD hS 0 rfl rfl 5 (by decide) (hts _ wf_J_32) (fun _ h9 => h9) rfl (by decide +kernel) rfl rfl (Nat.le_of_ble_eq_true rfl) d_J_finish_7 (fun H locs hP hD hS => ?_)
  have hP : va_P D cls [(qj, .inr (2, [.ref qg, .int (wi), .int (0), .int (hf), .int (nI M.2.2.1), .int ((-1)), .int (nI f), .int (nI g)])), (qg, .inr (1, [.ref qs, .int (nI (M.1))])), (qs, .inl (cI, 192, .inl (M.2.1)))] H := hP
  have hD : va_D A [(qj, .inr (2, [.ref qg, .int (wi), .int (0), .int (hf), .int (nI M.2.2.1), .int ((-1)), .int (nI f), .int (nI g)])), (qg, .inr (1, [.ref qs, .int (nI (M.1))])), (qs, .inl (cI, 192, .inl (M.2.1)))] := hD
  refine lv_aload_n hx hb d_J_finish_10 rfl (lv_at hl 0 rfl) ?_
  refine lv_aload_n hx hb d_J_finish_11 rfl (lv_at hl 0 rfl) ?_
  refine va_get (D := D) (ci := 2) (v := .int (nI f)) (C := R_J) (T := F_J) (N := 8) hx hb hts wl_J hown hK hP 0 rfl rfl 6 (by decide) (hts _ wf_J_35) (fun _ h9 => h9) rfl d_J_finish_12 ?_
  refine lv_aload_n hx hb d_J_finish_15 rfl (lv_at hl 0 rfl) ?_
  refine va_get (D := D) (ci := 2) (v := .int (nI g)) (C := R_J) (T := F_J) (N := 8) hx hb hts wl_J hown hK hP 0 rfl rfl 7 (by decide) (hts _ wf_J_38) (fun _ h9 => h9) rfl d_J_finish_16 ?_
  refine sd_callVV (As := [.int (nI f), .int (nI g)]) (rest := []) (cx := [(qj, .inr (2, [.ref qg, .int (wi), .int ((ms_u M).2.2.2), .int (hf), .int (nI (ms_u M).2.2.1), .int ((-1)), .int (nI f), .int (nI g)])), (qg, .inr (1, [.ref qs, .int (nI ((ms_u M).1))])), (qs, .inl (cI, 192, .inl ((ms_u M).2.1)))]) (w1 := [(qj, .inr (2, [.ref qg, .int (wi), .int ((ms_t (-1) (g + 1 - f) f (ms_u M)).2.2.2), .int (hf), .int (nI (ms_t (-1) (g + 1 - f) f (ms_u M)).2.2.1), .int ((-1)), .int (nI (ms_n (-1) (g + 1 - f) f (ms_u M) f)), .int (nI g)])), (qg, .inr (1, [.ref qs, .int (nI ((ms_t (-1) (g + 1 - f) f (ms_u M)).1))])), (qs, .inl (cI, 192, .inl ((ms_t (-1) (g + 1 - f) f (ms_u M)).2.1)))]) (c_J_tidy l D cI cZ cQ (qj) (qg) (qs) (wi) (ms_u M) (hf) ((-1)) (nI f) (nI g) (f) (g) (hT) (hf1) (hg1)) ⟨wc_J_tidy, wm_J_49, wi_J, by decide, by decide, show (parseMethodDescriptor y_J_tidy.desc).map (fun d => d.parameters.length) = some 2 by decide +kernel⟩ wo_J_tidy wz_J_tidy hx hb hml hown hts hl.1 ⟨Nat.le_of_ble_eq_true rfl, Nat.le_of_ble_eq_true rfl⟩ ⟨Nat.le_of_ble_eq_true rfl, Nat.le_of_ble_eq_true rfl⟩ hK hP hD hS hA [0, 1, 2] rfl (by decide) rfl rfl (q0 := 0) rfl rfl rfl (Nat.le_of_ble_eq_true rfl) d_J_finish_19 (fun H locs hP hD hS => ?_)
  have hP : va_P D cls [(qj, .inr (2, [.ref qg, .int (wi), .int ((ms_t (-1) (g + 1 - f) f (ms_u M)).2.2.2), .int (hf), .int (nI (ms_t (-1) (g + 1 - f) f (ms_u M)).2.2.1), .int ((-1)), .int (nI (ms_n (-1) (g + 1 - f) f (ms_u M) f)), .int (nI g)])), (qg, .inr (1, [.ref qs, .int (nI ((ms_t (-1) (g + 1 - f) f (ms_u M)).1))])), (qs, .inl (cI, 192, .inl ((ms_t (-1) (g + 1 - f) f (ms_u M)).2.1)))] H := hP
  have hD : va_D A [(qj, .inr (2, [.ref qg, .int (wi), .int ((ms_t (-1) (g + 1 - f) f (ms_u M)).2.2.2), .int (hf), .int (nI (ms_t (-1) (g + 1 - f) f (ms_u M)).2.2.1), .int ((-1)), .int (nI (ms_n (-1) (g + 1 - f) f (ms_u M) f)), .int (nI g)])), (qg, .inr (1, [.ref qs, .int (nI ((ms_t (-1) (g + 1 - f) f (ms_u M)).1))])), (qs, .inl (cI, 192, .inl ((ms_t (-1) (g + 1 - f) f (ms_u M)).2.1)))] := hD
  exact sd_vret hx hb hr hlk hP hS (Nat.le_of_ble_eq_true rfl) (Nat.le_of_ble_eq_true rfl) d_J_finish_22
set_option maxHeartbeats 4000000 in
set_option maxRecDepth 100000 in
theorem c_A_fill (l : Launch) (D : va_G) (cI cZ cQ : ClassId) (qa : Nat) (n : Nat) (f : Nat → Int32) (v : Int32) (hn : n < 2 ^ 31) : sd_V l D (tyL cI cZ cQ) y_A_fill b_A_fill 4 ({ frames := 0, cells := 0, slots := 0, locals := 0 }) [.ref qa, .int (v)] [(qa, .inl (cI, n, .inl (f)))] [(qa, .inl (cI, n, .inl (ar_f v n f)))] := by
  refine sd_ofV (by decide) (Nat.le_of_ble_eq_true rfl) ?_
  intro p e s m below meth c A ls hx hb hr hml hlk hown hts hK hP hD hA hS hl
  have hl : lv_has ls 4 [(0, .ref qa), (1, .int (v))] := hl
  have hP : va_P D cls [(qa, .inl (cI, n, .inl (ar_f v 0 f)))] s.heap := by rw [ar_f0]; exact hP
  have hD : va_D A [(qa, .inl (cI, n, .inl (ar_f v 0 f)))] := by rw [ar_f0]; exact hD
  refine lv_iconst (v := 0) hx hb d_A_fill_0 (by decide) ?_
  refine sd_top (y := nI 0) (rfl) ?_
  refine lv_istore_n hx hb d_A_fill_1 rfl hl (Nat.le_of_ble_eq_true rfl) (lv' := [(2, .int (nI 0)), (0, .ref qa), (1, .int (v))]) rfl (fun ls hl => ?_)
  refine lv_aload_n hx hb d_A_fill_2 rfl (lv_at hl 1 rfl) ?_
  refine va_alen hx hb hK hP 0 0 rfl rfl (v := nI (n)) rfl d_A_fill_3 ?_
  refine lv_istore_n hx hb d_A_fill_4 rfl hl (Nat.le_of_ble_eq_true rfl) (lv' := [(3, .int (nI (n))), (2, .int (nI 0)), (0, .ref qa), (1, .int (v))]) rfl (fun ls hl => ?_)
  have hl := lv_sub hl (l' := [(0, .ref qa), (1, .int (v)), (2, .int (nI 0)), (3, .int (nI (n)))]) [2, 3, 1, 0] rfl
  have loop5 : ∀ (d : Nat) (j : Nat) (ls : Array Slot) (H : Heap) (locs : List Loc), n - j = d → (j ≤ n) → lv_has ls 4 [(0, .ref qa), (1, .int (v)), (2, .int (nI (j))), (3, .int (nI (n)))] → va_P D cls [(qa, .inl (cI, n, .inl (ar_f v j f)))] H → va_D A [(qa, .inl (cI, n, .inl (ar_f v j f)))] → va_S A s.heap H locs → W p l e ({ frames := 0, cells := 0, slots := 0, locals := 0 }) s m ([.ref qa, .int (v)] : List Value).toArray below meth c H locs 0 0 (MQ below (sd_qv D [(qa, .inl (cI, n, .inl (ar_f v n f)))] A) ([.ref qa, .int (v)] : List Value).toArray s 0 0 A) (F0 m 5 ls []) := by
    intro d
    induction d using Nat.strongRecOn with
    | _ d ih5 =>
    intro j ls H locs hd hj hl hP hD hS
    subst hd
    refine lv_iload_n hx hb d_A_fill_5 rfl (lv_at hl 2 rfl) ?_
    refine lv_iload_n hx hb d_A_fill_6 rfl (lv_at hl 3 rfl) ?_
    refine lv_icmp_ge (tgt := 20) hx hb d_A_fill_7 rfl (fun hc7 => ?_) (fun hc7 => ?_)
    · skip
      rw [nI_leI (by omega) (by omega)] at hc7
      have hj8 : j = n := by omega
      subst hj8
      exact sd_vret hx hb hr hlk hP hS (Nat.le_of_ble_eq_true rfl) (Nat.le_of_ble_eq_true rfl) d_A_fill_20
    · skip
      rw [nI_leI (by omega) (by omega)] at hc7
      refine lv_aload_n hx hb d_A_fill_10 rfl (lv_at hl 0 rfl) ?_
      refine lv_iload_n hx hb d_A_fill_11 rfl (lv_at hl 2 rfl) ?_
      refine lv_iload_n hx hb d_A_fill_12 rfl (lv_at hl 1 rfl) ?_
      refine sd_iast (j := j) hx hb hK hP hD hS 0 0 rfl rfl (by omega) (by omega) d_A_fill_13 (fun H locs hP hD hS => ?_)
      have hP : va_P D cls [(qa, .inl (cI, n, .inl (upd (ar_f v j f) (j) (v))))] H := hP
      have hD : va_D A [(qa, .inl (cI, n, .inl (upd (ar_f v j f) (j) (v))))] := hD
      refine lv_iinc hx hb d_A_fill_14 hl (k := 2) rfl (v := nI (j + 1)) (ii_1 _) (Nat.le_of_ble_eq_true rfl) (lv' := [(2, .int (nI (j + 1))), (0, .ref qa), (1, .int (v)), (3, .int (nI (n)))]) rfl (fun ls hl => ?_)
      refine lv_goto (tgt := 5) hx hb d_A_fill_17 rfl ?_
      have hl := lv_sub hl (l' := [(0, .ref qa), (1, .int (v)), (2, .int (nI (j + 1))), (3, .int (nI (n)))]) [1, 2, 0, 3] rfl
      rw [ar_fS] at hP hD
      exact ih5 _ (by omega) (j + 1) ls _ _ rfl (by omega) hl hP hD hS
  exact loop5 _ (0) ls _ _ rfl (Nat.zero_le _) hl hP hD hS
end
section
/-- box b is filled and in the mask -/
def ch_k (fl : Nat → Int32) (mk : Int32) (b : Nat) : Bool := decide (¬ fl b = 0 ∧ ((mk.toUInt32 >>> ((nI b).toUInt32 &&& Int32.toUInt32 31)).toInt32 &&& 1) = 1)
theorem ch_ks {fl : Nat → Int32} {mk : Int32} {b : Nat} : ch_k fl mk b = true ↔ ¬ fl b = 0 ∧ ((mk.toUInt32 >>> ((nI b).toUInt32 &&& Int32.toUInt32 31)).toInt32 &&& 1) = 1 := decide_eq_true_iff
/-- the first boxes of the mask, at most k, from b on: how many, and their numbers -/
def ch_f (fl : Nat → Int32) (mk : Int32) (k : Nat) : Nat → Nat → Nat × (Nat → Int32) → Nat × (Nat → Int32)
  | 0, _, P => P
  | d + 1, b, P => if P.1 < k then (if ch_k fl mk b = true then ch_f fl mk k d (b + 1) (P.1 + 1, upd P.2 P.1 (nI b)) else ch_f fl mk k d (b + 1) P) else P
def ch_r (k : Nat) (P : Nat × (Nat → Int32)) : Int32 := if P.1 = k then 1 else 0
theorem ch_e {fl : Nat → Int32} {mk : Int32} {k d b : Nat} {P : Nat × (Nat → Int32)} (h : ¬ P.1 < k) : ch_f fl mk k d b P = P := by
  cases d with
  | zero => rfl
  | succ d => exact if_neg h
theorem ch_S {fl : Nat → Int32} {mk : Int32} {k n b : Nat} {P : Nat × (Nat → Int32)} (hb : b ≤ n) (h : P.1 < k) : ch_f fl mk k (n + 1 - b) b P = if ch_k fl mk b = true then ch_f fl mk k (n + 1 - (b + 1)) (b + 1) (P.1 + 1, upd P.2 P.1 (nI b)) else ch_f fl mk k (n + 1 - (b + 1)) (b + 1) P := by
  rw [show n + 1 - b = (n + 1 - (b + 1)) + 1 by omega]
  exact if_pos h
theorem gf_Ne {x : Nat → BitVec 8} {g h : Nat} {y : BitVec 8} (hg : h = g) : gf_N x g y h = gf_N x g y (h + 1) := (if_pos hg).symm
theorem gf_Nn {x : Nat → BitVec 8} {g h : Nat} {y : BitVec 8} (hg : ¬ h = g) : gf_N x g y (h + 1) = gf_m (gf_N x g y h) (y ^^^ x h) := if_neg hg
/-- the weights of the first g helpers -/
def wg_f (xb : Nat → BitVec 8) (k : Nat) (y : BitVec 8) (wt : Nat → Int32) (g : Nat) : Nat → Int32 := fun j => if j < g then bI (gf_w xb k y j) else wt j
theorem wg_0 (xb : Nat → BitVec 8) (k : Nat) (y : BitVec 8) (wt : Nat → Int32) : wg_f xb k y wt 0 = wt := funext fun i => if_neg (Nat.not_lt_zero i)
theorem wg_S (xb : Nat → BitVec 8) (k : Nat) (y : BitVec 8) (wt : Nat → Int32) (g : Nat) : upd (wg_f xb k y wt g) g (bI (gf_m (gf_N xb g y k) (gf_i (gf_N xb g (xb g) k)))) = wg_f xb k y wt (g + 1) := by
  funext i
  unfold upd wg_f
  by_cases h : i = g
  · rw [if_pos h, if_pos (by omega), h]; rfl
  · rw [if_neg h]
    by_cases h2 : i < g
    · rw [if_pos h2, if_pos (by omega)]
    · rw [if_neg h2, if_neg (by omega)]
theorem d_H_choose_0 : decode b_H_choose 0 = .ok (.iconst 0, 1) := by decide +kernel
theorem d_H_choose_1 : decode b_H_choose 1 = .ok (.istore_n 3, 1) := by decide +kernel
theorem d_H_choose_2 : decode b_H_choose 2 = .ok (.iconst 1, 1) := by decide +kernel
theorem d_H_choose_3 : decode b_H_choose 3 = .ok (.istore 4, 2) := by decide +kernel
theorem d_H_choose_5 : decode b_H_choose 5 = .ok (.iload 4, 2) := by decide +kernel
theorem d_H_choose_7 : decode b_H_choose 7 = .ok (.aload_n 1, 1) := by decide +kernel
theorem d_H_choose_8 : decode b_H_choose 8 = .ok (.arraylength, 1) := by decide +kernel
theorem d_H_choose_9 : decode b_H_choose 9 = .ok (.if_icmp .ge 46, 3) := by decide +kernel
theorem d_H_choose_12 : decode b_H_choose 12 = .ok (.iload_n 3, 1) := by decide +kernel
theorem d_H_choose_13 : decode b_H_choose 13 = .ok (.aload_n 0, 1) := by decide +kernel
theorem d_H_choose_14 : decode b_H_choose 14 = .ok (.getfield 7, 3) := by decide +kernel
theorem d_H_choose_17 : decode b_H_choose 17 = .ok (.arraylength, 1) := by decide +kernel
theorem d_H_choose_18 : decode b_H_choose 18 = .ok (.if_icmp .ge 37, 3) := by decide +kernel
theorem d_H_choose_21 : decode b_H_choose 21 = .ok (.aload_n 1, 1) := by decide +kernel
theorem d_H_choose_22 : decode b_H_choose 22 = .ok (.iload 4, 2) := by decide +kernel
theorem d_H_choose_24 : decode b_H_choose 24 = .ok (.baload, 1) := by decide +kernel
theorem d_H_choose_25 : decode b_H_choose 25 = .ok (.ifCond .eq 24, 3) := by decide +kernel
theorem d_H_choose_28 : decode b_H_choose 28 = .ok (.iload_n 2, 1) := by decide +kernel
theorem d_H_choose_29 : decode b_H_choose 29 = .ok (.iload 4, 2) := by decide +kernel
theorem d_H_choose_31 : decode b_H_choose 31 = .ok (.iushr, 1) := by decide +kernel
theorem d_H_choose_32 : decode b_H_choose 32 = .ok (.iconst 1, 1) := by decide +kernel
theorem d_H_choose_33 : decode b_H_choose 33 = .ok (.iand, 1) := by decide +kernel
theorem d_H_choose_34 : decode b_H_choose 34 = .ok (.iconst 1, 1) := by decide +kernel
theorem d_H_choose_35 : decode b_H_choose 35 = .ok (.if_icmp .ne 14, 3) := by decide +kernel
theorem d_H_choose_38 : decode b_H_choose 38 = .ok (.aload_n 0, 1) := by decide +kernel
theorem d_H_choose_39 : decode b_H_choose 39 = .ok (.getfield 7, 3) := by decide +kernel
theorem d_H_choose_42 : decode b_H_choose 42 = .ok (.iload_n 3, 1) := by decide +kernel
theorem d_H_choose_43 : decode b_H_choose 43 = .ok (.iload 4, 2) := by decide +kernel
theorem d_H_choose_45 : decode b_H_choose 45 = .ok (.iastore, 1) := by decide +kernel
theorem d_H_choose_46 : decode b_H_choose 46 = .ok (.iinc 3 1, 3) := by decide +kernel
theorem d_H_choose_49 : decode b_H_choose 49 = .ok (.iinc 4 1, 3) := by decide +kernel
theorem d_H_choose_52 : decode b_H_choose 52 = .ok (.goto (-47), 3) := by decide +kernel
theorem d_H_choose_55 : decode b_H_choose 55 = .ok (.iload_n 3, 1) := by decide +kernel
theorem d_H_choose_56 : decode b_H_choose 56 = .ok (.aload_n 0, 1) := by decide +kernel
theorem d_H_choose_57 : decode b_H_choose 57 = .ok (.getfield 7, 3) := by decide +kernel
theorem d_H_choose_60 : decode b_H_choose 60 = .ok (.arraylength, 1) := by decide +kernel
theorem d_H_choose_61 : decode b_H_choose 61 = .ok (.if_icmp .ne 7, 3) := by decide +kernel
theorem d_H_choose_64 : decode b_H_choose 64 = .ok (.iconst 1, 1) := by decide +kernel
theorem d_H_choose_65 : decode b_H_choose 65 = .ok (.goto 4, 3) := by decide +kernel
theorem d_H_choose_68 : decode b_H_choose 68 = .ok (.iconst 0, 1) := by decide +kernel
theorem d_H_choose_69 : decode b_H_choose 69 = .ok (.ireturn, 1) := by decide +kernel
theorem d_H_weigh_0 : decode b_H_weigh 0 = .ok (.iconst 0, 1) := by decide +kernel
theorem d_H_weigh_1 : decode b_H_weigh 1 = .ok (.istore_n 2, 1) := by decide +kernel
theorem d_H_weigh_2 : decode b_H_weigh 2 = .ok (.iload_n 2, 1) := by decide +kernel
theorem d_H_weigh_3 : decode b_H_weigh 3 = .ok (.aload_n 0, 1) := by decide +kernel
theorem d_H_weigh_4 : decode b_H_weigh 4 = .ok (.getfield 7, 3) := by decide +kernel
theorem d_H_weigh_7 : decode b_H_weigh 7 = .ok (.arraylength, 1) := by decide +kernel
theorem d_H_weigh_8 : decode b_H_weigh 8 = .ok (.if_icmp .ge 86, 3) := by decide +kernel
theorem d_H_weigh_11 : decode b_H_weigh 11 = .ok (.iconst 1, 1) := by decide +kernel
theorem d_H_weigh_12 : decode b_H_weigh 12 = .ok (.istore_n 3, 1) := by decide +kernel
theorem d_H_weigh_13 : decode b_H_weigh 13 = .ok (.iconst 1, 1) := by decide +kernel
theorem d_H_weigh_14 : decode b_H_weigh 14 = .ok (.istore 4, 2) := by decide +kernel
theorem d_H_weigh_16 : decode b_H_weigh 16 = .ok (.iconst 0, 1) := by decide +kernel
theorem d_H_weigh_17 : decode b_H_weigh 17 = .ok (.istore 5, 2) := by decide +kernel
theorem d_H_weigh_19 : decode b_H_weigh 19 = .ok (.iload 5, 2) := by decide +kernel
theorem d_H_weigh_21 : decode b_H_weigh 21 = .ok (.aload_n 0, 1) := by decide +kernel
theorem d_H_weigh_22 : decode b_H_weigh 22 = .ok (.getfield 7, 3) := by decide +kernel
theorem d_H_weigh_25 : decode b_H_weigh 25 = .ok (.arraylength, 1) := by decide +kernel
theorem d_H_weigh_26 : decode b_H_weigh 26 = .ok (.if_icmp .ge 50, 3) := by decide +kernel
theorem d_H_weigh_29 : decode b_H_weigh 29 = .ok (.iload 5, 2) := by decide +kernel
theorem d_H_weigh_31 : decode b_H_weigh 31 = .ok (.iload_n 2, 1) := by decide +kernel
theorem d_H_weigh_32 : decode b_H_weigh 32 = .ok (.if_icmp .eq 38, 3) := by decide +kernel
theorem d_H_weigh_35 : decode b_H_weigh 35 = .ok (.iload_n 3, 1) := by decide +kernel
theorem d_H_weigh_36 : decode b_H_weigh 36 = .ok (.iload_n 1, 1) := by decide +kernel
theorem d_H_weigh_37 : decode b_H_weigh 37 = .ok (.aload_n 0, 1) := by decide +kernel
theorem d_H_weigh_38 : decode b_H_weigh 38 = .ok (.getfield 7, 3) := by decide +kernel
theorem d_H_weigh_41 : decode b_H_weigh 41 = .ok (.iload 5, 2) := by decide +kernel
theorem d_H_weigh_43 : decode b_H_weigh 43 = .ok (.iaload, 1) := by decide +kernel
theorem d_H_weigh_44 : decode b_H_weigh 44 = .ok (.ixor, 1) := by decide +kernel
theorem d_H_weigh_45 : decode b_H_weigh 45 = .ok (.invokestatic 19, 3) := by decide +kernel
theorem d_H_weigh_48 : decode b_H_weigh 48 = .ok (.istore_n 3, 1) := by decide +kernel
theorem d_H_weigh_49 : decode b_H_weigh 49 = .ok (.iload 4, 2) := by decide +kernel
theorem d_H_weigh_51 : decode b_H_weigh 51 = .ok (.aload_n 0, 1) := by decide +kernel
theorem d_H_weigh_52 : decode b_H_weigh 52 = .ok (.getfield 7, 3) := by decide +kernel
theorem d_H_weigh_55 : decode b_H_weigh 55 = .ok (.iload_n 2, 1) := by decide +kernel
theorem d_H_weigh_56 : decode b_H_weigh 56 = .ok (.iaload, 1) := by decide +kernel
theorem d_H_weigh_57 : decode b_H_weigh 57 = .ok (.aload_n 0, 1) := by decide +kernel
theorem d_H_weigh_58 : decode b_H_weigh 58 = .ok (.getfield 7, 3) := by decide +kernel
theorem d_H_weigh_61 : decode b_H_weigh 61 = .ok (.iload 5, 2) := by decide +kernel
theorem d_H_weigh_63 : decode b_H_weigh 63 = .ok (.iaload, 1) := by decide +kernel
theorem d_H_weigh_64 : decode b_H_weigh 64 = .ok (.ixor, 1) := by decide +kernel
theorem d_H_weigh_65 : decode b_H_weigh 65 = .ok (.invokestatic 19, 3) := by decide +kernel
theorem d_H_weigh_68 : decode b_H_weigh 68 = .ok (.istore 4, 2) := by decide +kernel
theorem d_H_weigh_70 : decode b_H_weigh 70 = .ok (.iinc 5 1, 3) := by decide +kernel
theorem d_H_weigh_73 : decode b_H_weigh 73 = .ok (.goto (-54), 3) := by decide +kernel
theorem d_H_weigh_76 : decode b_H_weigh 76 = .ok (.aload_n 0, 1) := by decide +kernel
theorem d_H_weigh_77 : decode b_H_weigh 77 = .ok (.getfield 16, 3) := by decide +kernel
theorem d_H_weigh_80 : decode b_H_weigh 80 = .ok (.iload_n 2, 1) := by decide +kernel
theorem d_H_weigh_81 : decode b_H_weigh 81 = .ok (.iload_n 3, 1) := by decide +kernel
theorem d_H_weigh_82 : decode b_H_weigh 82 = .ok (.iload 4, 2) := by decide +kernel
theorem d_H_weigh_84 : decode b_H_weigh 84 = .ok (.invokestatic 25, 3) := by decide +kernel
theorem d_H_weigh_87 : decode b_H_weigh 87 = .ok (.iastore, 1) := by decide +kernel
theorem d_H_weigh_88 : decode b_H_weigh 88 = .ok (.iinc 2 1, 3) := by decide +kernel
theorem d_H_weigh_91 : decode b_H_weigh 91 = .ok (.goto (-89), 3) := by decide +kernel
theorem d_H_weigh_94 : decode b_H_weigh 94 = .ok (.return_, 1) := by decide +kernel
theorem d_H_clearSums_0 : decode b_H_clearSums 0 = .ok (.aload_n 0, 1) := by decide +kernel
theorem d_H_clearSums_1 : decode b_H_clearSums 1 = .ok (.getfield 13, 3) := by decide +kernel
theorem d_H_clearSums_4 : decode b_H_clearSums 4 = .ok (.iconst 0, 1) := by decide +kernel
theorem d_H_clearSums_5 : decode b_H_clearSums 5 = .ok (.invokestatic 32, 3) := by decide +kernel
theorem d_H_clearSums_8 : decode b_H_clearSums 8 = .ok (.return_, 1) := by decide +kernel
set_option maxHeartbeats 4000000 in
set_option maxRecDepth 100000 in
theorem c_H_choose (l : Launch) (D : va_G) (cI cZ cQ : ClassId) (qh : Nat) (qn : Nat) (qu : Nat) (qw : Nat) (k : Nat) (nb : Nat → Int32) (su : Nat → Int32) (wt : Nat → Int32) (qf : Nat) (n : Nat) (fl : Nat → Int32) (mk : Int32) (hk : k < 2 ^ 30) (hn : n < 2 ^ 30) : sd_I l D (tyL cI cZ cQ) y_H_choose b_H_choose 5 (.boolean) ({ frames := 0, cells := 0, slots := 0, locals := 0 }) [.ref qh, .ref qf, .int (mk)] [(qh, .inr (3, [.ref qn, .ref qu, .ref qw])), (qn, .inl (cI, k, .inl (nb))), (qu, .inl (cI, k, .inl (su))), (qw, .inl (cI, k, .inl (wt))), (qf, .inl (cZ, n + 1, .inl (fl)))] (ch_r k (ch_f fl mk k n 1 (0, nb))) [(qh, .inr (3, [.ref qn, .ref qu, .ref qw])), (qn, .inl (cI, k, .inl ((ch_f fl mk k n 1 (0, nb)).2))), (qu, .inl (cI, k, .inl (su))), (qw, .inl (cI, k, .inl (wt))), (qf, .inl (cZ, n + 1, .inl (fl)))] := by
  refine sd_ofI (by decide) (Nat.le_of_ble_eq_true rfl) ?_
  intro p e s m below meth c A ls hx hb hr hml hlk hown hts hK hP hD hA hS hl
  have hl : lv_has ls 5 [(0, .ref qh), (1, .ref qf), (2, .int (mk))] := hl
  refine lv_iconst (v := 0) hx hb d_H_choose_0 (by decide) ?_
  refine sd_top (y := nI 0) (rfl) ?_
  refine lv_istore_n hx hb d_H_choose_1 rfl hl (Nat.le_of_ble_eq_true rfl) (lv' := [(3, .int (nI 0)), (0, .ref qh), (1, .ref qf), (2, .int (mk))]) rfl (fun ls hl => ?_)
  refine lv_iconst (v := 1) hx hb d_H_choose_2 (by decide) ?_
  refine sd_top (y := nI 1) (rfl) ?_
  refine lv_istore hx hb d_H_choose_3 hl (Nat.le_of_ble_eq_true rfl) (lv' := [(4, .int (nI 1)), (3, .int (nI 0)), (0, .ref qh), (1, .ref qf), (2, .int (mk))]) rfl (fun ls hl => ?_)
  have hl := lv_sub hl (l' := [(0, .ref qh), (1, .ref qf), (2, .int (mk)), (3, .int (nI 0)), (4, .int (nI 1))]) [2, 3, 4, 1, 0] rfl
  have loop5 : ∀ (d : Nat) (b : Nat) (u : Nat) (nb2 : Nat → Int32) (ls : Array Slot) (H : Heap) (locs : List Loc), n + 1 - b = d → (1 ≤ b) → (b ≤ n + 1) → (u ≤ k) → (ch_f fl mk k (n + 1 - b) b (u, nb2) = ch_f fl mk k n 1 (0, nb)) → lv_has ls 5 [(0, .ref qh), (1, .ref qf), (2, .int (mk)), (3, .int (nI (u))), (4, .int (nI (b)))] → va_P D cls [(qh, .inr (3, [.ref qn, .ref qu, .ref qw])), (qn, .inl (cI, k, .inl (nb2))), (qu, .inl (cI, k, .inl (su))), (qw, .inl (cI, k, .inl (wt))), (qf, .inl (cZ, n + 1, .inl (fl)))] H → va_D A [(qh, .inr (3, [.ref qn, .ref qu, .ref qw])), (qn, .inl (cI, k, .inl (nb2))), (qu, .inl (cI, k, .inl (su))), (qw, .inl (cI, k, .inl (wt))), (qf, .inl (cZ, n + 1, .inl (fl)))] → va_S A s.heap H locs → W p l e ({ frames := 0, cells := 0, slots := 0, locals := 0 }) s m ([.ref qh, .ref qf, .int (mk)] : List Value).toArray below meth c H locs 0 0 (MQ below (sd_qi D (ch_r k (ch_f fl mk k n 1 (0, nb))) [(qh, .inr (3, [.ref qn, .ref qu, .ref qw])), (qn, .inl (cI, k, .inl ((ch_f fl mk k n 1 (0, nb)).2))), (qu, .inl (cI, k, .inl (su))), (qw, .inl (cI, k, .inl (wt))), (qf, .inl (cZ, n + 1, .inl (fl)))] A) ([.ref qh, .ref qf, .int (mk)] : List Value).toArray s 0 0 A) (F0 m 5 ls []) := by
    intro d
    induction d using Nat.strongRecOn with
    | _ d ih5 =>
    intro b u nb2 ls H locs hd h1 hbn huk hi hl hP hD hS
    subst hd
    refine lv_iload hx hb d_H_choose_5 (lv_at hl 4 rfl) ?_
    refine lv_aload_n hx hb d_H_choose_7 rfl (lv_at hl 1 rfl) ?_
    refine va_alen hx hb hK hP 4 1 rfl rfl (v := nI (n + 1)) rfl d_H_choose_8 ?_
    refine lv_icmp_ge (tgt := 55) hx hb d_H_choose_9 rfl (fun hc9 => ?_) (fun hc9 => ?_)
    · skip
      rw [nI_leI (by omega) (by omega)] at hc9
      have he : ch_f fl mk k n 1 (0, nb) = (u, nb2) := by rw [← hi, show n + 1 - b = 0 by omega]; rfl
      refine lv_iload_n hx hb d_H_choose_55 rfl (lv_at hl 3 rfl) ?_
      refine lv_aload_n hx hb d_H_choose_56 rfl (lv_at hl 0 rfl) ?_
      refine va_get (D := D) (ci := 3) (v := .ref qn) (C := R_H) (T := F_H) (N := 3) hx hb hts wl_H hown hK hP 0 rfl rfl 0 (by decide) (hts _ wf_H_7) (fun _ h9 => h9) rfl d_H_choose_57 ?_
      refine va_alen hx hb hK hP 1 0 rfl rfl (v := nI (k)) rfl d_H_choose_60 ?_
      refine lv_icmp_ne (tgt := 68) hx hb d_H_choose_61 rfl (fun hc61 => ?_) (fun hc61 => ?_)
      · skip
        have hu : ¬ u = k := fun h => hc61 (by rw [h])
        refine lv_iconst (v := 0) hx hb d_H_choose_68 (by decide) ?_
        have hP : va_P D cls [(qh, .inr (3, [.ref qn, .ref qu, .ref qw])), (qn, .inl (cI, k, .inl ((ch_f fl mk k n 1 (0, nb)).2))), (qu, .inl (cI, k, .inl (su))), (qw, .inl (cI, k, .inl (wt))), (qf, .inl (cZ, n + 1, .inl (fl)))] H := by rw [he]; exact hP
        exact sd_zret hx hb hr hlk hP hS (Nat.le_of_ble_eq_true rfl) (Nat.le_of_ble_eq_true rfl) (by rw [he]; first | exact (if_pos hu).symm | exact (if_neg hu).symm) (by decide) d_H_choose_69
      · skip
        have hu : u = k := (nI_eq (by omega) (by omega)).mp hc61
        refine lv_iconst (v := 1) hx hb d_H_choose_64 (by decide) ?_
        refine lv_goto (tgt := 69) hx hb d_H_choose_65 rfl ?_
        have hP : va_P D cls [(qh, .inr (3, [.ref qn, .ref qu, .ref qw])), (qn, .inl (cI, k, .inl ((ch_f fl mk k n 1 (0, nb)).2))), (qu, .inl (cI, k, .inl (su))), (qw, .inl (cI, k, .inl (wt))), (qf, .inl (cZ, n + 1, .inl (fl)))] H := by rw [he]; exact hP
        exact sd_zret hx hb hr hlk hP hS (Nat.le_of_ble_eq_true rfl) (Nat.le_of_ble_eq_true rfl) (by rw [he]; first | exact (if_pos hu).symm | exact (if_neg hu).symm) (by decide) d_H_choose_69
    · skip
      rw [nI_leI (by omega) (by omega)] at hc9
      refine lv_iload_n hx hb d_H_choose_12 rfl (lv_at hl 3 rfl) ?_
      refine lv_aload_n hx hb d_H_choose_13 rfl (lv_at hl 0 rfl) ?_
      refine va_get (D := D) (ci := 3) (v := .ref qn) (C := R_H) (T := F_H) (N := 3) hx hb hts wl_H hown hK hP 0 rfl rfl 0 (by decide) (hts _ wf_H_7) (fun _ h9 => h9) rfl d_H_choose_14 ?_
      refine va_alen hx hb hK hP 1 0 rfl rfl (v := nI (k)) rfl d_H_choose_17 ?_
      refine lv_icmp_ge (tgt := 55) hx hb d_H_choose_18 rfl (fun hc18 => ?_) (fun hc18 => ?_)
      · skip
        rw [nI_leI (by omega) (by omega)] at hc18
        have he : ch_f fl mk k n 1 (0, nb) = (u, nb2) := by rw [← hi]; exact ch_e (by show ¬ u < k; omega)
        refine lv_iload_n hx hb d_H_choose_55 rfl (lv_at hl 3 rfl) ?_
        refine lv_aload_n hx hb d_H_choose_56 rfl (lv_at hl 0 rfl) ?_
        refine va_get (D := D) (ci := 3) (v := .ref qn) (C := R_H) (T := F_H) (N := 3) hx hb hts wl_H hown hK hP 0 rfl rfl 0 (by decide) (hts _ wf_H_7) (fun _ h9 => h9) rfl d_H_choose_57 ?_
        refine va_alen hx hb hK hP 1 0 rfl rfl (v := nI (k)) rfl d_H_choose_60 ?_
        refine lv_icmp_ne (tgt := 68) hx hb d_H_choose_61 rfl (fun hc61 => ?_) (fun hc61 => ?_)
        · skip
          have hu : ¬ u = k := fun h => hc61 (by rw [h])
          refine lv_iconst (v := 0) hx hb d_H_choose_68 (by decide) ?_
          have hP : va_P D cls [(qh, .inr (3, [.ref qn, .ref qu, .ref qw])), (qn, .inl (cI, k, .inl ((ch_f fl mk k n 1 (0, nb)).2))), (qu, .inl (cI, k, .inl (su))), (qw, .inl (cI, k, .inl (wt))), (qf, .inl (cZ, n + 1, .inl (fl)))] H := by rw [he]; exact hP
          exact sd_zret hx hb hr hlk hP hS (Nat.le_of_ble_eq_true rfl) (Nat.le_of_ble_eq_true rfl) (by rw [he]; first | exact (if_pos hu).symm | exact (if_neg hu).symm) (by decide) d_H_choose_69
        · skip
          have hu : u = k := (nI_eq (by omega) (by omega)).mp hc61
          refine lv_iconst (v := 1) hx hb d_H_choose_64 (by decide) ?_
          refine lv_goto (tgt := 69) hx hb d_H_choose_65 rfl ?_
          have hP : va_P D cls [(qh, .inr (3, [.ref qn, .ref qu, .ref qw])), (qn, .inl (cI, k, .inl ((ch_f fl mk k n 1 (0, nb)).2))), (qu, .inl (cI, k, .inl (su))), (qw, .inl (cI, k, .inl (wt))), (qf, .inl (cZ, n + 1, .inl (fl)))] H := by rw [he]; exact hP
          exact sd_zret hx hb hr hlk hP hS (Nat.le_of_ble_eq_true rfl) (Nat.le_of_ble_eq_true rfl) (by rw [he]; first | exact (if_pos hu).symm | exact (if_neg hu).symm) (by decide) d_H_choose_69
      · skip
        rw [nI_leI (by omega) (by omega)] at hc18
        have huk2 : u < k := by omega
        have hst := ch_S (fl := fl) (mk := mk) (k := k) (n := n) (b := b) (P := (u, nb2)) (by omega) huk2
        refine lv_aload_n hx hb d_H_choose_21 rfl (lv_at hl 1 rfl) ?_
        refine lv_iload hx hb d_H_choose_22 (lv_at hl 4 rfl) ?_
        refine sd_zald (j := b) hx hb hK hP 4 1 rfl rfl (by omega) (by omega) d_H_choose_24 ?_
        refine lv_if_eq (tgt := 49) hx hb d_H_choose_25 rfl (fun hc25 => ?_) (fun hc25 => ?_)
        · skip
          have hin : ch_f fl mk k (n + 1 - (b + 1)) (b + 1) (u, nb2) = ch_f fl mk k n 1 (0, nb) := by rw [← hi, hst, if_neg (fun h => (ch_ks.mp h).1 hc25)]
          refine lv_iinc hx hb d_H_choose_49 hl (k := 4) rfl (v := nI (b + 1)) (ii_1 _) (Nat.le_of_ble_eq_true rfl) (lv' := [(4, .int (nI (b + 1))), (0, .ref qh), (1, .ref qf), (2, .int (mk)), (3, .int (nI (u)))]) rfl (fun ls hl => ?_)
          refine lv_goto (tgt := 5) hx hb d_H_choose_52 rfl ?_
          have hl := lv_sub hl (l' := [(0, .ref qh), (1, .ref qf), (2, .int (mk)), (3, .int (nI (u))), (4, .int (nI (b + 1)))]) [1, 2, 3, 4, 0] rfl
          exact ih5 _ (by omega) (b + 1) _ _ ls _ _ rfl (by omega) (by omega) (by omega) (hin) hl hP hD hS
        · skip
          refine lv_iload_n hx hb d_H_choose_28 rfl (lv_at hl 2 rfl) ?_
          refine lv_iload hx hb d_H_choose_29 (lv_at hl 4 rfl) ?_
          refine lv_iushr hx hb d_H_choose_31 rfl ?_
          refine lv_iconst (v := 1) hx hb d_H_choose_32 (by decide) ?_
          refine lv_iand hx hb d_H_choose_33 ?_
          refine lv_iconst (v := 1) hx hb d_H_choose_34 (by decide) ?_
          refine lv_icmp_ne (tgt := 49) hx hb d_H_choose_35 rfl (fun hc35 => ?_) (fun hc35 => ?_)
          · skip
            have hin : ch_f fl mk k (n + 1 - (b + 1)) (b + 1) (u, nb2) = ch_f fl mk k n 1 (0, nb) := by rw [← hi, hst, if_neg (fun h => hc35 (ch_ks.mp h).2)]
            refine lv_iinc hx hb d_H_choose_49 hl (k := 4) rfl (v := nI (b + 1)) (ii_1 _) (Nat.le_of_ble_eq_true rfl) (lv' := [(4, .int (nI (b + 1))), (0, .ref qh), (1, .ref qf), (2, .int (mk)), (3, .int (nI (u)))]) rfl (fun ls hl => ?_)
            refine lv_goto (tgt := 5) hx hb d_H_choose_52 rfl ?_
            have hl := lv_sub hl (l' := [(0, .ref qh), (1, .ref qf), (2, .int (mk)), (3, .int (nI (u))), (4, .int (nI (b + 1)))]) [1, 2, 3, 4, 0] rfl
            exact ih5 _ (by omega) (b + 1) _ _ ls _ _ rfl (by omega) (by omega) (by omega) (hin) hl hP hD hS
          · skip
            have hin : ch_f fl mk k (n + 1 - (b + 1)) (b + 1) (u + 1, upd nb2 u (nI b)) = ch_f fl mk k n 1 (0, nb) := by rw [← hi, hst, if_pos (ch_ks.mpr ⟨hc25, hc35⟩)]
            refine lv_aload_n hx hb d_H_choose_38 rfl (lv_at hl 0 rfl) ?_
            refine va_get (D := D) (ci := 3) (v := .ref qn) (C := R_H) (T := F_H) (N := 3) hx hb hts wl_H hown hK hP 0 rfl rfl 0 (by decide) (hts _ wf_H_7) (fun _ h9 => h9) rfl d_H_choose_39 ?_
            refine lv_iload_n hx hb d_H_choose_42 rfl (lv_at hl 3 rfl) ?_
            refine lv_iload hx hb d_H_choose_43 (lv_at hl 4 rfl) ?_
            refine sd_iast (j := u) hx hb hK hP hD hS 1 0 rfl rfl (by omega) (by omega) d_H_choose_45 (fun H locs hP hD hS => ?_)
            have hP : va_P D cls [(qh, .inr (3, [.ref qn, .ref qu, .ref qw])), (qn, .inl (cI, k, .inl (upd (nb2) (u) (nI (b))))), (qu, .inl (cI, k, .inl (su))), (qw, .inl (cI, k, .inl (wt))), (qf, .inl (cZ, n + 1, .inl (fl)))] H := hP
            have hD : va_D A [(qh, .inr (3, [.ref qn, .ref qu, .ref qw])), (qn, .inl (cI, k, .inl (upd (nb2) (u) (nI (b))))), (qu, .inl (cI, k, .inl (su))), (qw, .inl (cI, k, .inl (wt))), (qf, .inl (cZ, n + 1, .inl (fl)))] := hD
            refine lv_iinc hx hb d_H_choose_46 hl (k := 3) rfl (v := nI (u + 1)) (ii_1 _) (Nat.le_of_ble_eq_true rfl) (lv' := [(3, .int (nI (u + 1))), (0, .ref qh), (1, .ref qf), (2, .int (mk)), (4, .int (nI (b)))]) rfl (fun ls hl => ?_)
            refine lv_iinc hx hb d_H_choose_49 hl (k := 4) rfl (v := nI (b + 1)) (ii_1 _) (Nat.le_of_ble_eq_true rfl) (lv' := [(4, .int (nI (b + 1))), (3, .int (nI (u + 1))), (0, .ref qh), (1, .ref qf), (2, .int (mk))]) rfl (fun ls hl => ?_)
            refine lv_goto (tgt := 5) hx hb d_H_choose_52 rfl ?_
            have hl := lv_sub hl (l' := [(0, .ref qh), (1, .ref qf), (2, .int (mk)), (3, .int (nI (u + 1))), (4, .int (nI (b + 1)))]) [2, 3, 4, 1, 0] rfl
            exact ih5 _ (by omega) (b + 1) _ _ ls _ _ rfl (by omega) (by omega) (by omega) (hin) hl hP hD hS
  exact loop5 _ (1) (0) (nb) ls _ _ rfl (by omega) (by omega) (by omega) (rfl) hl hP hD hS
set_option maxHeartbeats 4000000 in
set_option maxRecDepth 100000 in
theorem c_H_weigh (l : Launch) (D : va_G) (cI cZ cQ : ClassId) (qh : Nat) (qn : Nat) (qu : Nat) (qw : Nat) (k : Nat) (nb : Nat → Int32) (su : Nat → Int32) (wt : Nat → Int32) (xb : Nat → BitVec 8) (y : BitVec 8) (hk : k < 2 ^ 30) (hnb : ∀ j, j < k → nb j = bI (xb j)) : sd_V l D (tyL cI cZ cQ) y_H_weigh b_H_weigh 6 ({ frames := 3, cells := 0, slots := 0, locals := 68 }) [.ref qh, .int (bI y)] [(qh, .inr (3, [.ref qn, .ref qu, .ref qw])), (qn, .inl (cI, k, .inl (nb))), (qu, .inl (cI, k, .inl (su))), (qw, .inl (cI, k, .inl (wt)))] [(qh, .inr (3, [.ref qn, .ref qu, .ref qw])), (qn, .inl (cI, k, .inl (nb))), (qu, .inl (cI, k, .inl (su))), (qw, .inl (cI, k, .inl (wg_f xb k y wt k)))] := by
  refine sd_ofV (by decide) (Nat.le_of_ble_eq_true rfl) ?_
  intro p e s m below meth c A ls hx hb hr hml hlk hown hts hK hP hD hA hS hl
  have hl : lv_has ls 6 [(0, .ref qh), (1, .int (bI y))] := hl
  have hP : va_P D cls [(qh, .inr (3, [.ref qn, .ref qu, .ref qw])), (qn, .inl (cI, k, .inl (nb))), (qu, .inl (cI, k, .inl (su))), (qw, .inl (cI, k, .inl (wg_f xb k y wt 0)))] s.heap := by rw [wg_0]; exact hP
  have hD : va_D A [(qh, .inr (3, [.ref qn, .ref qu, .ref qw])), (qn, .inl (cI, k, .inl (nb))), (qu, .inl (cI, k, .inl (su))), (qw, .inl (cI, k, .inl (wg_f xb k y wt 0)))] := by rw [wg_0]; exact hD
  refine lv_iconst (v := 0) hx hb d_H_weigh_0 (by decide) ?_
  refine sd_top (y := nI 0) (rfl) ?_
  refine lv_istore_n hx hb d_H_weigh_1 rfl hl (Nat.le_of_ble_eq_true rfl) (lv' := [(2, .int (nI 0)), (0, .ref qh), (1, .int (bI y))]) rfl (fun ls hl => ?_)
  have hl := lv_sub hl (l' := [(0, .ref qh), (1, .int (bI y)), (2, .int (nI 0))]) [1, 2, 0] rfl
  have loop2 : ∀ (d : Nat) (g : Nat) (ls : Array Slot) (H : Heap) (locs : List Loc), k - g = d → (g ≤ k) → lv_has ls 6 [(0, .ref qh), (1, .int (bI y)), (2, .int (nI (g)))] → va_P D cls [(qh, .inr (3, [.ref qn, .ref qu, .ref qw])), (qn, .inl (cI, k, .inl (nb))), (qu, .inl (cI, k, .inl (su))), (qw, .inl (cI, k, .inl (wg_f xb k y wt g)))] H → va_D A [(qh, .inr (3, [.ref qn, .ref qu, .ref qw])), (qn, .inl (cI, k, .inl (nb))), (qu, .inl (cI, k, .inl (su))), (qw, .inl (cI, k, .inl (wg_f xb k y wt g)))] → va_S A s.heap H locs → W p l e ({ frames := 3, cells := 0, slots := 0, locals := 68 }) s m ([.ref qh, .int (bI y)] : List Value).toArray below meth c H locs 0 0 (MQ below (sd_qv D [(qh, .inr (3, [.ref qn, .ref qu, .ref qw])), (qn, .inl (cI, k, .inl (nb))), (qu, .inl (cI, k, .inl (su))), (qw, .inl (cI, k, .inl (wg_f xb k y wt k)))] A) ([.ref qh, .int (bI y)] : List Value).toArray s 0 0 A) (F0 m 2 ls []) := by
    intro d
    induction d using Nat.strongRecOn with
    | _ d ih2 =>
    intro g ls H locs hd hg hl hP hD hS
    subst hd
    refine lv_iload_n hx hb d_H_weigh_2 rfl (lv_at hl 2 rfl) ?_
    refine lv_aload_n hx hb d_H_weigh_3 rfl (lv_at hl 0 rfl) ?_
    refine va_get (D := D) (ci := 3) (v := .ref qn) (C := R_H) (T := F_H) (N := 3) hx hb hts wl_H hown hK hP 0 rfl rfl 0 (by decide) (hts _ wf_H_7) (fun _ h9 => h9) rfl d_H_weigh_4 ?_
    refine va_alen hx hb hK hP 1 0 rfl rfl (v := nI (k)) rfl d_H_weigh_7 ?_
    refine lv_icmp_ge (tgt := 94) hx hb d_H_weigh_8 rfl (fun hc8 => ?_) (fun hc8 => ?_)
    · skip
      rw [nI_leI (by omega) (by omega)] at hc8
      have hgk : k = g := by omega
      subst hgk
      exact sd_vret hx hb hr hlk hP hS (Nat.le_of_ble_eq_true rfl) (Nat.le_of_ble_eq_true rfl) d_H_weigh_94
    · skip
      rw [nI_leI (by omega) (by omega)] at hc8
      refine lv_iconst (v := 1) hx hb d_H_weigh_11 (by decide) ?_
      refine sd_top (y := bI 1#8) (bI_1.symm) ?_
      refine lv_istore_n hx hb d_H_weigh_12 rfl hl (Nat.le_of_ble_eq_true rfl) (lv' := [(3, .int (bI 1#8)), (0, .ref qh), (1, .int (bI y)), (2, .int (nI (g)))]) rfl (fun ls hl => ?_)
      refine lv_iconst (v := 1) hx hb d_H_weigh_13 (by decide) ?_
      refine sd_top (y := bI 1#8) (bI_1.symm) ?_
      refine lv_istore hx hb d_H_weigh_14 hl (Nat.le_of_ble_eq_true rfl) (lv' := [(4, .int (bI 1#8)), (3, .int (bI 1#8)), (0, .ref qh), (1, .int (bI y)), (2, .int (nI (g)))]) rfl (fun ls hl => ?_)
      refine lv_iconst (v := 0) hx hb d_H_weigh_16 (by decide) ?_
      refine sd_top (y := nI 0) (rfl) ?_
      refine lv_istore hx hb d_H_weigh_17 hl (Nat.le_of_ble_eq_true rfl) (lv' := [(5, .int (nI 0)), (4, .int (bI 1#8)), (3, .int (bI 1#8)), (0, .ref qh), (1, .int (bI y)), (2, .int (nI (g)))]) rfl (fun ls hl => ?_)
      have hl := lv_sub hl (l' := [(0, .ref qh), (1, .int (bI y)), (2, .int (nI (g))), (3, .int (bI 1#8)), (4, .int (bI 1#8)), (5, .int (nI 0))]) [3, 4, 5, 2, 1, 0] rfl
      have loop19 : ∀ (d : Nat) (h : Nat) (ls : Array Slot) (H : Heap) (locs : List Loc), k - h = d → (h ≤ k) → lv_has ls 6 [(0, .ref qh), (1, .int (bI y)), (2, .int (nI (g))), (3, .int (bI (gf_N xb g y h))), (4, .int (bI (gf_N xb g (xb g) h))), (5, .int (nI (h)))] → va_P D cls [(qh, .inr (3, [.ref qn, .ref qu, .ref qw])), (qn, .inl (cI, k, .inl (nb))), (qu, .inl (cI, k, .inl (su))), (qw, .inl (cI, k, .inl (wg_f xb k y wt g)))] H → va_D A [(qh, .inr (3, [.ref qn, .ref qu, .ref qw])), (qn, .inl (cI, k, .inl (nb))), (qu, .inl (cI, k, .inl (su))), (qw, .inl (cI, k, .inl (wg_f xb k y wt g)))] → va_S A s.heap H locs → W p l e ({ frames := 3, cells := 0, slots := 0, locals := 68 }) s m ([.ref qh, .int (bI y)] : List Value).toArray below meth c H locs 0 0 (MQ below (sd_qv D [(qh, .inr (3, [.ref qn, .ref qu, .ref qw])), (qn, .inl (cI, k, .inl (nb))), (qu, .inl (cI, k, .inl (su))), (qw, .inl (cI, k, .inl (wg_f xb k y wt k)))] A) ([.ref qh, .int (bI y)] : List Value).toArray s 0 0 A) (F0 m 19 ls []) := by
        intro d
        induction d using Nat.strongRecOn with
        | _ d ih19 =>
        intro h ls H locs hd hh hl hP hD hS
        subst hd
        refine lv_iload hx hb d_H_weigh_19 (lv_at hl 5 rfl) ?_
        refine lv_aload_n hx hb d_H_weigh_21 rfl (lv_at hl 0 rfl) ?_
        refine va_get (D := D) (ci := 3) (v := .ref qn) (C := R_H) (T := F_H) (N := 3) hx hb hts wl_H hown hK hP 0 rfl rfl 0 (by decide) (hts _ wf_H_7) (fun _ h9 => h9) rfl d_H_weigh_22 ?_
        refine va_alen hx hb hK hP 1 0 rfl rfl (v := nI (k)) rfl d_H_weigh_25 ?_
        refine lv_icmp_ge (tgt := 76) hx hb d_H_weigh_26 rfl (fun hc26 => ?_) (fun hc26 => ?_)
        · skip
          rw [nI_leI (by omega) (by omega)] at hc26
          have hhk : k = h := by omega
          subst hhk
          refine lv_aload_n hx hb d_H_weigh_76 rfl (lv_at hl 0 rfl) ?_
          refine va_get (D := D) (ci := 3) (v := .ref qw) (C := R_H) (T := F_H) (N := 3) hx hb hts wl_H hown hK hP 0 rfl rfl 2 (by decide) (hts _ wf_H_16) (fun _ h9 => h9) rfl d_H_weigh_77 ?_
          refine lv_iload_n hx hb d_H_weigh_80 rfl (lv_at hl 2 rfl) ?_
          refine lv_iload_n hx hb d_H_weigh_81 rfl (lv_at hl 3 rfl) ?_
          refine lv_iload hx hb d_H_weigh_82 (lv_at hl 4 rfl) ?_
          refine sd_callSI (As := [.int (bI (gf_N xb g y k)), .int (bI (gf_N xb g (xb g) k))]) (rest := [.int (nI (g)), .ref qw]) (cx := []) (w1 := []) (c_B_quotient l D cI cZ cQ (gf_N xb g y k) (gf_N xb g (xb g) k)) ⟨wc_B_quotient, wm_H_25, wi_B, by decide, by decide, show (parseMethodDescriptor y_B_quotient.desc).map (fun d => d.parameters.length) = some 2 by decide +kernel⟩ ws_B_quotient hx hb hml hown hts hl.1 ⟨Nat.le_of_ble_eq_true rfl, Nat.le_of_ble_eq_true rfl⟩ ⟨Nat.le_of_ble_eq_true rfl, Nat.le_of_ble_eq_true rfl⟩ hK hP hD hS hA [] rfl (by decide) rfl rfl rfl (Nat.le_of_ble_eq_true rfl) d_H_weigh_84 (fun H locs hP hD hS => ?_)
          have hP : va_P D cls [(qh, .inr (3, [.ref qn, .ref qu, .ref qw])), (qn, .inl (cI, k, .inl (nb))), (qu, .inl (cI, k, .inl (su))), (qw, .inl (cI, k, .inl (wg_f xb k y wt g)))] H := hP
          have hD : va_D A [(qh, .inr (3, [.ref qn, .ref qu, .ref qw])), (qn, .inl (cI, k, .inl (nb))), (qu, .inl (cI, k, .inl (su))), (qw, .inl (cI, k, .inl (wg_f xb k y wt g)))] := hD
          refine sd_iast (j := g) hx hb hK hP hD hS 3 0 rfl rfl (by omega) (by omega) d_H_weigh_87 (fun H locs hP hD hS => ?_)
          have hP : va_P D cls [(qh, .inr (3, [.ref qn, .ref qu, .ref qw])), (qn, .inl (cI, k, .inl (nb))), (qu, .inl (cI, k, .inl (su))), (qw, .inl (cI, k, .inl (upd (wg_f xb k y wt g) (g) (bI (gf_m (gf_N xb g y k) (gf_i (gf_N xb g (xb g) k)))))))] H := hP
          have hD : va_D A [(qh, .inr (3, [.ref qn, .ref qu, .ref qw])), (qn, .inl (cI, k, .inl (nb))), (qu, .inl (cI, k, .inl (su))), (qw, .inl (cI, k, .inl (upd (wg_f xb k y wt g) (g) (bI (gf_m (gf_N xb g y k) (gf_i (gf_N xb g (xb g) k)))))))] := hD
          refine lv_iinc hx hb d_H_weigh_88 hl (k := 2) rfl (v := nI (g + 1)) (ii_1 _) (Nat.le_of_ble_eq_true rfl) (lv' := [(2, .int (nI (g + 1))), (0, .ref qh), (1, .int (bI y)), (3, .int (bI (gf_N xb g y k))), (4, .int (bI (gf_N xb g (xb g) k))), (5, .int (nI (k)))]) rfl (fun ls hl => ?_)
          refine lv_goto (tgt := 2) hx hb d_H_weigh_91 rfl ?_
          have hl := lv_sub hl (l' := [(0, .ref qh), (1, .int (bI y)), (2, .int (nI (g + 1)))]) [1, 2, 0] rfl
          rw [wg_S] at hP hD
          exact ih2 _ (by omega) (g + 1) ls _ _ rfl (by omega) hl hP hD hS
        · skip
          rw [nI_leI (by omega) (by omega)] at hc26
          refine lv_iload hx hb d_H_weigh_29 (lv_at hl 5 rfl) ?_
          refine lv_iload_n hx hb d_H_weigh_31 rfl (lv_at hl 2 rfl) ?_
          refine lv_icmp_eq (tgt := 70) hx hb d_H_weigh_32 rfl (fun hc32 => ?_) (fun hc32 => ?_)
          · skip
            have hgh : h = g := (nI_eq (by omega) (by omega)).mp hc32
            rw [gf_Ne (y := y) hgh] at hl
            rw [gf_Ne (y := xb g) hgh] at hl
            refine lv_iinc hx hb d_H_weigh_70 hl (k := 5) rfl (v := nI (h + 1)) (ii_1 _) (Nat.le_of_ble_eq_true rfl) (lv' := [(5, .int (nI (h + 1))), (0, .ref qh), (1, .int (bI y)), (2, .int (nI (g))), (3, .int (bI (gf_N xb g y (h + 1)))), (4, .int (bI (gf_N xb g (xb g) (h + 1))))]) rfl (fun ls hl => ?_)
            refine lv_goto (tgt := 19) hx hb d_H_weigh_73 rfl ?_
            have hl := lv_sub hl (l' := [(0, .ref qh), (1, .int (bI y)), (2, .int (nI (g))), (3, .int (bI (gf_N xb g y (h + 1)))), (4, .int (bI (gf_N xb g (xb g) (h + 1)))), (5, .int (nI (h + 1)))]) [1, 2, 3, 4, 5, 0] rfl
            exact ih19 _ (by omega) (h + 1) ls _ _ rfl (by omega) hl hP hD hS
          · skip
            have hgh : ¬ h = g := fun h9 => hc32 (by rw [h9])
            refine lv_iload_n hx hb d_H_weigh_35 rfl (lv_at hl 3 rfl) ?_
            refine lv_iload_n hx hb d_H_weigh_36 rfl (lv_at hl 1 rfl) ?_
            refine lv_aload_n hx hb d_H_weigh_37 rfl (lv_at hl 0 rfl) ?_
            refine va_get (D := D) (ci := 3) (v := .ref qn) (C := R_H) (T := F_H) (N := 3) hx hb hts wl_H hown hK hP 0 rfl rfl 0 (by decide) (hts _ wf_H_7) (fun _ h9 => h9) rfl d_H_weigh_38 ?_
            refine lv_iload hx hb d_H_weigh_41 (lv_at hl 5 rfl) ?_
            refine sd_iald (j := h) hx hb hK hP 1 0 rfl rfl (by omega) (by omega) d_H_weigh_43 ?_
            refine sd_top (y := bI (xb h)) (hnb h (by omega)) ?_
            refine lv_ixor hx hb d_H_weigh_44 ?_
            refine sd_top (y := bI (y ^^^ xb h)) (bI_xor _ _) ?_
            refine sd_callSI (As := [.int (bI (gf_N xb g y h)), .int (bI (y ^^^ xb h))]) (rest := []) (cx := []) (w1 := []) (c_B_product l D cI cZ cQ (gf_N xb g y h) (y ^^^ xb h)) ⟨wc_B_product, wm_H_19, wi_B, by decide, by decide, show (parseMethodDescriptor y_B_product.desc).map (fun d => d.parameters.length) = some 2 by decide +kernel⟩ ws_B_product hx hb hml hown hts hl.1 ⟨Nat.le_of_ble_eq_true rfl, Nat.le_of_ble_eq_true rfl⟩ ⟨Nat.le_of_ble_eq_true rfl, Nat.le_of_ble_eq_true rfl⟩ hK hP hD hS hA [] rfl (by decide) rfl rfl rfl (Nat.le_of_ble_eq_true rfl) d_H_weigh_45 (fun H locs hP hD hS => ?_)
            have hP : va_P D cls [(qh, .inr (3, [.ref qn, .ref qu, .ref qw])), (qn, .inl (cI, k, .inl (nb))), (qu, .inl (cI, k, .inl (su))), (qw, .inl (cI, k, .inl (wg_f xb k y wt g)))] H := hP
            have hD : va_D A [(qh, .inr (3, [.ref qn, .ref qu, .ref qw])), (qn, .inl (cI, k, .inl (nb))), (qu, .inl (cI, k, .inl (su))), (qw, .inl (cI, k, .inl (wg_f xb k y wt g)))] := hD
            refine sd_top (y := bI (gf_N xb g y (h + 1))) (by rw [gf_Nn hgh]) ?_
            refine lv_istore_n hx hb d_H_weigh_48 rfl hl (Nat.le_of_ble_eq_true rfl) (lv' := [(3, .int (bI (gf_N xb g y (h + 1)))), (0, .ref qh), (1, .int (bI y)), (2, .int (nI (g))), (4, .int (bI (gf_N xb g (xb g) h))), (5, .int (nI (h)))]) rfl (fun ls hl => ?_)
            refine lv_iload hx hb d_H_weigh_49 (lv_at hl 4 rfl) ?_
            refine lv_aload_n hx hb d_H_weigh_51 rfl (lv_at hl 1 rfl) ?_
            refine va_get (D := D) (ci := 3) (v := .ref qn) (C := R_H) (T := F_H) (N := 3) hx hb hts wl_H hown hK hP 0 rfl rfl 0 (by decide) (hts _ wf_H_7) (fun _ h9 => h9) rfl d_H_weigh_52 ?_
            refine lv_iload_n hx hb d_H_weigh_55 rfl (lv_at hl 3 rfl) ?_
            refine sd_iald (j := g) hx hb hK hP 1 0 rfl rfl (by omega) (by omega) d_H_weigh_56 ?_
            refine sd_top (y := bI (xb g)) (hnb g (by omega)) ?_
            refine lv_aload_n hx hb d_H_weigh_57 rfl (lv_at hl 1 rfl) ?_
            refine va_get (D := D) (ci := 3) (v := .ref qn) (C := R_H) (T := F_H) (N := 3) hx hb hts wl_H hown hK hP 0 rfl rfl 0 (by decide) (hts _ wf_H_7) (fun _ h9 => h9) rfl d_H_weigh_58 ?_
            refine lv_iload hx hb d_H_weigh_61 (lv_at hl 5 rfl) ?_
            refine sd_iald (j := h) hx hb hK hP 1 0 rfl rfl (by omega) (by omega) d_H_weigh_63 ?_
            refine sd_top (y := bI (xb h)) (hnb h (by omega)) ?_
            refine lv_ixor hx hb d_H_weigh_64 ?_
            refine sd_top (y := bI (xb g ^^^ xb h)) (bI_xor _ _) ?_
            refine sd_callSI (As := [.int (bI (gf_N xb g (xb g) h)), .int (bI (xb g ^^^ xb h))]) (rest := []) (cx := []) (w1 := []) (c_B_product l D cI cZ cQ (gf_N xb g (xb g) h) (xb g ^^^ xb h)) ⟨wc_B_product, wm_H_19, wi_B, by decide, by decide, show (parseMethodDescriptor y_B_product.desc).map (fun d => d.parameters.length) = some 2 by decide +kernel⟩ ws_B_product hx hb hml hown hts hl.1 ⟨Nat.le_of_ble_eq_true rfl, Nat.le_of_ble_eq_true rfl⟩ ⟨Nat.le_of_ble_eq_true rfl, Nat.le_of_ble_eq_true rfl⟩ hK hP hD hS hA [] rfl (by decide) rfl rfl rfl (Nat.le_of_ble_eq_true rfl) d_H_weigh_65 (fun H locs hP hD hS => ?_)
            have hP : va_P D cls [(qh, .inr (3, [.ref qn, .ref qu, .ref qw])), (qn, .inl (cI, k, .inl (nb))), (qu, .inl (cI, k, .inl (su))), (qw, .inl (cI, k, .inl (wg_f xb k y wt g)))] H := hP
            have hD : va_D A [(qh, .inr (3, [.ref qn, .ref qu, .ref qw])), (qn, .inl (cI, k, .inl (nb))), (qu, .inl (cI, k, .inl (su))), (qw, .inl (cI, k, .inl (wg_f xb k y wt g)))] := hD
            refine sd_top (y := bI (gf_N xb g (xb g) (h + 1))) (by rw [gf_Nn hgh]) ?_
            refine lv_istore hx hb d_H_weigh_68 hl (Nat.le_of_ble_eq_true rfl) (lv' := [(4, .int (bI (gf_N xb g (xb g) (h + 1)))), (3, .int (bI (gf_N xb g y (h + 1)))), (0, .ref qh), (1, .int (bI y)), (2, .int (nI (g))), (5, .int (nI (h)))]) rfl (fun ls hl => ?_)
            refine lv_iinc hx hb d_H_weigh_70 hl (k := 5) rfl (v := nI (h + 1)) (ii_1 _) (Nat.le_of_ble_eq_true rfl) (lv' := [(5, .int (nI (h + 1))), (4, .int (bI (gf_N xb g (xb g) (h + 1)))), (3, .int (bI (gf_N xb g y (h + 1)))), (0, .ref qh), (1, .int (bI y)), (2, .int (nI (g)))]) rfl (fun ls hl => ?_)
            refine lv_goto (tgt := 19) hx hb d_H_weigh_73 rfl ?_
            have hl := lv_sub hl (l' := [(0, .ref qh), (1, .int (bI y)), (2, .int (nI (g))), (3, .int (bI (gf_N xb g y (h + 1)))), (4, .int (bI (gf_N xb g (xb g) (h + 1)))), (5, .int (nI (h + 1)))]) [3, 4, 5, 2, 1, 0] rfl
            exact ih19 _ (by omega) (h + 1) ls _ _ rfl (by omega) hl hP hD hS
      exact loop19 _ (0) ls _ _ rfl (Nat.zero_le _) hl hP hD hS
  exact loop2 _ (0) ls _ _ rfl (Nat.zero_le _) hl hP hD hS
set_option maxHeartbeats 4000000 in
set_option maxRecDepth 100000 in
theorem c_H_clearSums (l : Launch) (D : va_G) (cI cZ cQ : ClassId) (qh : Nat) (qn : Nat) (qu : Nat) (qw : Nat) (k : Nat) (nb : Nat → Int32) (su : Nat → Int32) (wt : Nat → Int32) (hk : k < 2 ^ 30) : sd_V l D (tyL cI cZ cQ) y_H_clearSums b_H_clearSums 1 ({ frames := 1, cells := 0, slots := 0, locals := 23 }) [.ref qh] [(qh, .inr (3, [.ref qn, .ref qu, .ref qw])), (qn, .inl (cI, k, .inl (nb))), (qu, .inl (cI, k, .inl (su))), (qw, .inl (cI, k, .inl (wt)))] [(qh, .inr (3, [.ref qn, .ref qu, .ref qw])), (qn, .inl (cI, k, .inl (nb))), (qu, .inl (cI, k, .inl (ar_f 0 k su))), (qw, .inl (cI, k, .inl (wt)))] := by
  refine sd_ofV (by decide) (Nat.le_of_ble_eq_true rfl) ?_
  intro p e s m below meth c A ls hx hb hr hml hlk hown hts hK hP hD hA hS hl
  have hl : lv_has ls 1 [(0, .ref qh)] := hl
  refine lv_aload_n hx hb d_H_clearSums_0 rfl (lv_at hl 0 rfl) ?_
  refine va_get (D := D) (ci := 3) (v := .ref qu) (C := R_H) (T := F_H) (N := 3) hx hb hts wl_H hown hK hP 0 rfl rfl 1 (by decide) (hts _ wf_H_13) (fun _ h9 => h9) rfl d_H_clearSums_1 ?_
  refine lv_iconst (v := 0) hx hb d_H_clearSums_4 (by decide) ?_
  refine sd_callSV (As := [.ref qu, .int (0)]) (rest := []) (cx := [(qu, .inl (cI, k, .inl (su)))]) (w1 := [(qu, .inl (cI, k, .inl (ar_f 0 k su)))]) (c_A_fill l D cI cZ cQ (qu) (k) (su) (0) (by omega)) ⟨wc_A_fill, wm_H_32, wi_A, by decide, by decide, show (parseMethodDescriptor y_A_fill.desc).map (fun d => d.parameters.length) = some 2 by decide +kernel⟩ ws_A_fill hx hb hml hown hts hl.1 ⟨Nat.le_of_ble_eq_true rfl, Nat.le_of_ble_eq_true rfl⟩ ⟨Nat.le_of_ble_eq_true rfl, Nat.le_of_ble_eq_true rfl⟩ hK hP hD hS hA [2] rfl (by decide) rfl rfl rfl (Nat.le_of_ble_eq_true rfl) d_H_clearSums_5 (fun H locs hP hD hS => ?_)
  have hP : va_P D cls [(qh, .inr (3, [.ref qn, .ref qu, .ref qw])), (qn, .inl (cI, k, .inl (nb))), (qu, .inl (cI, k, .inl (ar_f 0 k su))), (qw, .inl (cI, k, .inl (wt)))] H := hP
  have hD : va_D A [(qh, .inr (3, [.ref qn, .ref qu, .ref qw])), (qn, .inl (cI, k, .inl (nb))), (qu, .inl (cI, k, .inl (ar_f 0 k su))), (qw, .inl (cI, k, .inl (wt)))] := hD
  exact sd_vret hx hb hr hlk hP hS (Nat.le_of_ble_eq_true rfl) (Nat.le_of_ble_eq_true rfl) d_H_clearSums_8
end
section
abbrev vW (cI cQ cZ : ClassId) (qv qp qr qj qg qs qh qn qu qw qH qF qc ql qf : Nat) (x0_0 : Int32) (x0_1 : Int32) (x0_10 : Int32) (x1_1 : Int32) (x1_2 : Int32) (z2 : Nat) (f2 : Nat → Int32) (x3_1 : Int32) (x3_2 : Int32) (x3_3 : Int32) (x3_4 : Int32) (x3_5 : Int32) (x3_6 : Int32) (x3_7 : Int32) (x4_1 : Int32) (z5 : Nat) (f5 : Nat → Int32) (z7 : Nat) (f7 : Nat → Int32) (z8 : Nat) (f8 : Nat → Int32) (z9 : Nat) (f9 : Nat → Int32) (z10 : Nat) (f10 : Nat → Option Nat) (z11 : Nat) (f11 : Nat → Option Nat) (z12 : Nat) (f12 : Nat → Int32) (z13 : Nat) (f13 : Nat → Int32) (z14 : Nat) (f14 : Nat → Int32) : va_W := [(qv, .inr (4, [.int x0_0, .int x0_1, .ref qp, .ref qj, .ref qh, .ref qH, .ref qF, .ref qc, .ref ql, .ref qf, .int x0_10])), (qp, .inr (0, [.ref qr, .int x1_1, .int x1_2])), (qr, .inl (cI, z2, .inl (f2))), (qj, .inr (2, [.ref qg, .int x3_1, .int x3_2, .int x3_3, .int x3_4, .int x3_5, .int x3_6, .int x3_7])), (qg, .inr (1, [.ref qs, .int x4_1])), (qs, .inl (cI, z5, .inl (f5))), (qh, .inr (3, [.ref qn, .ref qu, .ref qw])), (qn, .inl (cI, z7, .inl (f7))), (qu, .inl (cI, z8, .inl (f8))), (qw, .inl (cI, z9, .inl (f9))), (qH, .inl (cQ, z10, .inr (.inr (.inr (.inr (f10)))))), (qF, .inl (cQ, z11, .inr (.inr (.inr (.inr (f11)))))), (qc, .inl (cI, z12, .inl (f12))), (ql, .inl (cI, z13, .inl (f13))), (qf, .inl (cZ, z14, .inl (f14)))]
def tpb (k q : Nat) : Nat := if q = 2 then k * (k - 1) else k - 1
def sm_b (ln : Nat → Nat) : Nat → Nat
  | 0 => 0
  | f + 1 => sm_b ln f + ln f
def sm_k (ln : Nat → Nat) : Nat → Nat
  | 0 => 0
  | f + 1 => if 0 < ln f then sm_k ln f + 1 else sm_k ln f
theorem sm_k0 {ln : Nat → Nat} {f : Nat} (h : ¬ 0 < ln f) : sm_k ln (f + 1) = sm_k ln f := if_neg h
theorem sm_k1 {ln : Nat → Nat} {f : Nat} (h : 0 < ln f) : sm_k ln (f + 1) = sm_k ln f + 1 := if_pos h
/-- how many of the boxes 1 .. b hold something -/
def sm_f (fl : Nat → Int32) : Nat → Nat
  | 0 => 0
  | b + 1 => if fl (b + 1) = 0 then sm_f fl b else sm_f fl b + 1
theorem sm_f0 {fl : Nat → Int32} {b : Nat} (h : fl (b + 1) = 0) : sm_f fl (b + 1) = sm_f fl b := if_pos h
theorem sm_f1 {fl : Nat → Int32} {b : Nat} (h : ¬ fl (b + 1) = 0) : sm_f fl (b + 1) = sm_f fl b + 1 := if_neg h
theorem d_H_term_0 : decode b_H_term 0 = .ok (.aload_n 2, 1) := by decide +kernel
theorem d_H_term_1 : decode b_H_term 1 = .ok (.aload_n 0, 1) := by decide +kernel
theorem d_H_term_2 : decode b_H_term 2 = .ok (.getfield 7, 3) := by decide +kernel
theorem d_H_term_5 : decode b_H_term 5 = .ok (.iload_n 1, 1) := by decide +kernel
theorem d_H_term_6 : decode b_H_term 6 = .ok (.iaload, 1) := by decide +kernel
theorem d_H_term_7 : decode b_H_term 7 = .ok (.aaload, 1) := by decide +kernel
theorem d_H_term_8 : decode b_H_term 8 = .ok (.iload_n 3, 1) := by decide +kernel
theorem d_H_term_9 : decode b_H_term 9 = .ok (.iaload, 1) := by decide +kernel
theorem d_H_term_10 : decode b_H_term 10 = .ok (.aload_n 0, 1) := by decide +kernel
theorem d_H_term_11 : decode b_H_term 11 = .ok (.getfield 16, 3) := by decide +kernel
theorem d_H_term_14 : decode b_H_term 14 = .ok (.iload_n 1, 1) := by decide +kernel
theorem d_H_term_15 : decode b_H_term 15 = .ok (.iaload, 1) := by decide +kernel
theorem d_H_term_16 : decode b_H_term 16 = .ok (.invokestatic 19, 3) := by decide +kernel
theorem d_H_term_19 : decode b_H_term 19 = .ok (.ireturn, 1) := by decide +kernel
theorem d_H_join_0 : decode b_H_join 0 = .ok (.iconst 0, 1) := by decide +kernel
theorem d_H_join_1 : decode b_H_join 1 = .ok (.istore_n 3, 1) := by decide +kernel
theorem d_H_join_2 : decode b_H_join 2 = .ok (.iconst 0, 1) := by decide +kernel
theorem d_H_join_3 : decode b_H_join 3 = .ok (.istore 4, 2) := by decide +kernel
theorem d_H_join_5 : decode b_H_join 5 = .ok (.iload 4, 2) := by decide +kernel
theorem d_H_join_7 : decode b_H_join 7 = .ok (.aload_n 0, 1) := by decide +kernel
theorem d_H_join_8 : decode b_H_join 8 = .ok (.getfield 7, 3) := by decide +kernel
theorem d_H_join_11 : decode b_H_join 11 = .ok (.arraylength, 1) := by decide +kernel
theorem d_H_join_12 : decode b_H_join 12 = .ok (.if_icmp .ge 20, 3) := by decide +kernel
theorem d_H_join_15 : decode b_H_join 15 = .ok (.iload_n 3, 1) := by decide +kernel
theorem d_H_join_16 : decode b_H_join 16 = .ok (.aload_n 0, 1) := by decide +kernel
theorem d_H_join_17 : decode b_H_join 17 = .ok (.iload 4, 2) := by decide +kernel
theorem d_H_join_19 : decode b_H_join 19 = .ok (.aload_n 1, 1) := by decide +kernel
theorem d_H_join_20 : decode b_H_join 20 = .ok (.iload_n 2, 1) := by decide +kernel
theorem d_H_join_21 : decode b_H_join 21 = .ok (.invokevirtual 28, 3) := by decide +kernel
theorem d_H_join_24 : decode b_H_join 24 = .ok (.ixor, 1) := by decide +kernel
theorem d_H_join_25 : decode b_H_join 25 = .ok (.istore_n 3, 1) := by decide +kernel
theorem d_H_join_26 : decode b_H_join 26 = .ok (.iinc 4 1, 3) := by decide +kernel
theorem d_H_join_29 : decode b_H_join 29 = .ok (.goto (-24), 3) := by decide +kernel
theorem d_H_join_32 : decode b_H_join 32 = .ok (.iload_n 3, 1) := by decide +kernel
theorem d_H_join_33 : decode b_H_join 33 = .ok (.ireturn, 1) := by decide +kernel
theorem d_V_slot_0 : decode b_V_slot 0 = .ok (.iload_n 0, 1) := by decide +kernel
theorem d_V_slot_1 : decode b_V_slot 1 = .ok (.bipush 8, 2) := by decide +kernel
theorem d_V_slot_3 : decode b_V_slot 3 = .ok (.imul, 1) := by decide +kernel
theorem d_V_slot_4 : decode b_V_slot 4 = .ok (.iload_n 1, 1) := by decide +kernel
theorem d_V_slot_5 : decode b_V_slot 5 = .ok (.iadd, 1) := by decide +kernel
theorem d_V_slot_6 : decode b_V_slot 6 = .ok (.ireturn, 1) := by decide +kernel
theorem d_V_takenPerByte_0 : decode b_V_takenPerByte 0 = .ok (.iload_n 1, 1) := by decide +kernel
theorem d_V_takenPerByte_1 : decode b_V_takenPerByte 1 = .ok (.iconst 2, 1) := by decide +kernel
theorem d_V_takenPerByte_2 : decode b_V_takenPerByte 2 = .ok (.if_icmp .ne 17, 3) := by decide +kernel
theorem d_V_takenPerByte_5 : decode b_V_takenPerByte 5 = .ok (.aload_n 0, 1) := by decide +kernel
theorem d_V_takenPerByte_6 : decode b_V_takenPerByte 6 = .ok (.getfield 43, 3) := by decide +kernel
theorem d_V_takenPerByte_9 : decode b_V_takenPerByte 9 = .ok (.aload_n 0, 1) := by decide +kernel
theorem d_V_takenPerByte_10 : decode b_V_takenPerByte 10 = .ok (.getfield 43, 3) := by decide +kernel
theorem d_V_takenPerByte_13 : decode b_V_takenPerByte 13 = .ok (.iconst 1, 1) := by decide +kernel
theorem d_V_takenPerByte_14 : decode b_V_takenPerByte 14 = .ok (.isub, 1) := by decide +kernel
theorem d_V_takenPerByte_15 : decode b_V_takenPerByte 15 = .ok (.imul, 1) := by decide +kernel
theorem d_V_takenPerByte_16 : decode b_V_takenPerByte 16 = .ok (.goto 9, 3) := by decide +kernel
theorem d_V_takenPerByte_19 : decode b_V_takenPerByte 19 = .ok (.aload_n 0, 1) := by decide +kernel
theorem d_V_takenPerByte_20 : decode b_V_takenPerByte 20 = .ok (.getfield 43, 3) := by decide +kernel
theorem d_V_takenPerByte_23 : decode b_V_takenPerByte 23 = .ok (.iconst 1, 1) := by decide +kernel
theorem d_V_takenPerByte_24 : decode b_V_takenPerByte 24 = .ok (.isub, 1) := by decide +kernel
theorem d_V_takenPerByte_25 : decode b_V_takenPerByte 25 = .ok (.ireturn, 1) := by decide +kernel
theorem d_V_keptBytes_0 : decode b_V_keptBytes 0 = .ok (.iconst 0, 1) := by decide +kernel
theorem d_V_keptBytes_1 : decode b_V_keptBytes 1 = .ok (.istore_n 1, 1) := by decide +kernel
theorem d_V_keptBytes_2 : decode b_V_keptBytes 2 = .ok (.iconst 0, 1) := by decide +kernel
theorem d_V_keptBytes_3 : decode b_V_keptBytes 3 = .ok (.istore_n 2, 1) := by decide +kernel
theorem d_V_keptBytes_4 : decode b_V_keptBytes 4 = .ok (.iload_n 2, 1) := by decide +kernel
theorem d_V_keptBytes_5 : decode b_V_keptBytes 5 = .ok (.bipush 8, 2) := by decide +kernel
theorem d_V_keptBytes_7 : decode b_V_keptBytes 7 = .ok (.if_icmp .ge 18, 3) := by decide +kernel
theorem d_V_keptBytes_10 : decode b_V_keptBytes 10 = .ok (.iload_n 1, 1) := by decide +kernel
theorem d_V_keptBytes_11 : decode b_V_keptBytes 11 = .ok (.aload_n 0, 1) := by decide +kernel
theorem d_V_keptBytes_12 : decode b_V_keptBytes 12 = .ok (.getfield 23, 3) := by decide +kernel
theorem d_V_keptBytes_15 : decode b_V_keptBytes 15 = .ok (.iload_n 2, 1) := by decide +kernel
theorem d_V_keptBytes_16 : decode b_V_keptBytes 16 = .ok (.iaload, 1) := by decide +kernel
theorem d_V_keptBytes_17 : decode b_V_keptBytes 17 = .ok (.iadd, 1) := by decide +kernel
theorem d_V_keptBytes_18 : decode b_V_keptBytes 18 = .ok (.istore_n 1, 1) := by decide +kernel
theorem d_V_keptBytes_19 : decode b_V_keptBytes 19 = .ok (.iinc 2 1, 3) := by decide +kernel
theorem d_V_keptBytes_22 : decode b_V_keptBytes 22 = .ok (.goto (-18), 3) := by decide +kernel
theorem d_V_keptBytes_25 : decode b_V_keptBytes 25 = .ok (.iload_n 1, 1) := by decide +kernel
theorem d_V_keptBytes_26 : decode b_V_keptBytes 26 = .ok (.ireturn, 1) := by decide +kernel
theorem d_V_keptFiles_0 : decode b_V_keptFiles 0 = .ok (.iconst 0, 1) := by decide +kernel
theorem d_V_keptFiles_1 : decode b_V_keptFiles 1 = .ok (.istore_n 1, 1) := by decide +kernel
theorem d_V_keptFiles_2 : decode b_V_keptFiles 2 = .ok (.iconst 0, 1) := by decide +kernel
theorem d_V_keptFiles_3 : decode b_V_keptFiles 3 = .ok (.istore_n 2, 1) := by decide +kernel
theorem d_V_keptFiles_4 : decode b_V_keptFiles 4 = .ok (.iload_n 2, 1) := by decide +kernel
theorem d_V_keptFiles_5 : decode b_V_keptFiles 5 = .ok (.bipush 8, 2) := by decide +kernel
theorem d_V_keptFiles_7 : decode b_V_keptFiles 7 = .ok (.if_icmp .ge 26, 3) := by decide +kernel
theorem d_V_keptFiles_10 : decode b_V_keptFiles 10 = .ok (.iload_n 1, 1) := by decide +kernel
theorem d_V_keptFiles_11 : decode b_V_keptFiles 11 = .ok (.aload_n 0, 1) := by decide +kernel
theorem d_V_keptFiles_12 : decode b_V_keptFiles 12 = .ok (.getfield 23, 3) := by decide +kernel
theorem d_V_keptFiles_15 : decode b_V_keptFiles 15 = .ok (.iload_n 2, 1) := by decide +kernel
theorem d_V_keptFiles_16 : decode b_V_keptFiles 16 = .ok (.iaload, 1) := by decide +kernel
theorem d_V_keptFiles_17 : decode b_V_keptFiles 17 = .ok (.ifCond .le 7, 3) := by decide +kernel
theorem d_V_keptFiles_20 : decode b_V_keptFiles 20 = .ok (.iconst 1, 1) := by decide +kernel
theorem d_V_keptFiles_21 : decode b_V_keptFiles 21 = .ok (.goto 4, 3) := by decide +kernel
theorem d_V_keptFiles_24 : decode b_V_keptFiles 24 = .ok (.iconst 0, 1) := by decide +kernel
theorem d_V_keptFiles_25 : decode b_V_keptFiles 25 = .ok (.iadd, 1) := by decide +kernel
theorem d_V_keptFiles_26 : decode b_V_keptFiles 26 = .ok (.istore_n 1, 1) := by decide +kernel
theorem d_V_keptFiles_27 : decode b_V_keptFiles 27 = .ok (.iinc 2 1, 3) := by decide +kernel
theorem d_V_keptFiles_30 : decode b_V_keptFiles 30 = .ok (.goto (-26), 3) := by decide +kernel
theorem d_V_keptFiles_33 : decode b_V_keptFiles 33 = .ok (.iload_n 1, 1) := by decide +kernel
theorem d_V_keptFiles_34 : decode b_V_keptFiles 34 = .ok (.ireturn, 1) := by decide +kernel
theorem d_V_filledBoxes_0 : decode b_V_filledBoxes 0 = .ok (.iconst 0, 1) := by decide +kernel
theorem d_V_filledBoxes_1 : decode b_V_filledBoxes 1 = .ok (.istore_n 1, 1) := by decide +kernel
theorem d_V_filledBoxes_2 : decode b_V_filledBoxes 2 = .ok (.iconst 1, 1) := by decide +kernel
theorem d_V_filledBoxes_3 : decode b_V_filledBoxes 3 = .ok (.istore_n 2, 1) := by decide +kernel
theorem d_V_filledBoxes_4 : decode b_V_filledBoxes 4 = .ok (.iload_n 2, 1) := by decide +kernel
theorem d_V_filledBoxes_5 : decode b_V_filledBoxes 5 = .ok (.aload_n 0, 1) := by decide +kernel
theorem d_V_filledBoxes_6 : decode b_V_filledBoxes 6 = .ok (.getfield 40, 3) := by decide +kernel
theorem d_V_filledBoxes_9 : decode b_V_filledBoxes 9 = .ok (.if_icmp .gt 26, 3) := by decide +kernel
theorem d_V_filledBoxes_12 : decode b_V_filledBoxes 12 = .ok (.iload_n 1, 1) := by decide +kernel
theorem d_V_filledBoxes_13 : decode b_V_filledBoxes 13 = .ok (.aload_n 0, 1) := by decide +kernel
theorem d_V_filledBoxes_14 : decode b_V_filledBoxes 14 = .ok (.getfield 66, 3) := by decide +kernel
theorem d_V_filledBoxes_17 : decode b_V_filledBoxes 17 = .ok (.iload_n 2, 1) := by decide +kernel
theorem d_V_filledBoxes_18 : decode b_V_filledBoxes 18 = .ok (.baload, 1) := by decide +kernel
theorem d_V_filledBoxes_19 : decode b_V_filledBoxes 19 = .ok (.ifCond .eq 7, 3) := by decide +kernel
theorem d_V_filledBoxes_22 : decode b_V_filledBoxes 22 = .ok (.iconst 1, 1) := by decide +kernel
theorem d_V_filledBoxes_23 : decode b_V_filledBoxes 23 = .ok (.goto 4, 3) := by decide +kernel
theorem d_V_filledBoxes_26 : decode b_V_filledBoxes 26 = .ok (.iconst 0, 1) := by decide +kernel
theorem d_V_filledBoxes_27 : decode b_V_filledBoxes 27 = .ok (.iadd, 1) := by decide +kernel
theorem d_V_filledBoxes_28 : decode b_V_filledBoxes 28 = .ok (.istore_n 1, 1) := by decide +kernel
theorem d_V_filledBoxes_29 : decode b_V_filledBoxes 29 = .ok (.iinc 2 1, 3) := by decide +kernel
theorem d_V_filledBoxes_32 : decode b_V_filledBoxes 32 = .ok (.goto (-28), 3) := by decide +kernel
theorem d_V_filledBoxes_35 : decode b_V_filledBoxes 35 = .ok (.iload_n 1, 1) := by decide +kernel
theorem d_V_filledBoxes_36 : decode b_V_filledBoxes 36 = .ok (.ireturn, 1) := by decide +kernel
theorem d_V_pool_0 : decode b_V_pool 0 = .ok (.aload_n 0, 1) := by decide +kernel
theorem d_V_pool_1 : decode b_V_pool 1 = .ok (.getfield 10, 3) := by decide +kernel
theorem d_V_pool_4 : decode b_V_pool 4 = .ok (.getfield 77, 3) := by decide +kernel
theorem d_V_pool_7 : decode b_V_pool 7 = .ok (.ireturn, 1) := by decide +kernel
theorem d_V_stopped_0 : decode b_V_stopped 0 = .ok (.aload_n 0, 1) := by decide +kernel
theorem d_V_stopped_1 : decode b_V_stopped 1 = .ok (.getfield 19, 3) := by decide +kernel
theorem d_V_stopped_4 : decode b_V_stopped 4 = .ok (.getfield 177, 3) := by decide +kernel
theorem d_V_stopped_7 : decode b_V_stopped 7 = .ok (.ireturn, 1) := by decide +kernel
theorem d_V_files_0 : decode b_V_files 0 = .ok (.aload_n 0, 1) := by decide +kernel
theorem d_V_files_1 : decode b_V_files 1 = .ok (.invokevirtual 199, 3) := by decide +kernel
theorem d_V_files_4 : decode b_V_files 4 = .ok (.ireturn, 1) := by decide +kernel
theorem d_V_epoch_0 : decode b_V_epoch 0 = .ok (.aload_n 0, 1) := by decide +kernel
theorem d_V_epoch_1 : decode b_V_epoch 1 = .ok (.getfield 27, 3) := by decide +kernel
theorem d_V_epoch_4 : decode b_V_epoch 4 = .ok (.ireturn, 1) := by decide +kernel
theorem d_V_sent_0 : decode b_V_sent 0 = .ok (.aload_n 0, 1) := by decide +kernel
theorem d_V_sent_1 : decode b_V_sent 1 = .ok (.getfield 19, 3) := by decide +kernel
theorem d_V_sent_4 : decode b_V_sent 4 = .ok (.getfield 204, 3) := by decide +kernel
theorem d_V_sent_7 : decode b_V_sent 7 = .ok (.getfield 208, 3) := by decide +kernel
theorem d_V_sent_10 : decode b_V_sent 10 = .ok (.ireturn, 1) := by decide +kernel
set_option maxHeartbeats 4000000 in
set_option maxRecDepth 100000 in
theorem c_H_term (l : Launch) (D : va_G) (cI cZ cQ : ClassId) (qv : Nat) (qp : Nat) (qr : Nat) (qj : Nat) (qg : Nat) (qs : Nat) (qh : Nat) (qn : Nat) (qu : Nat) (qw : Nat) (qH : Nat) (qF : Nat) (qc : Nat) (ql : Nat) (qf : Nat) (k : Nat) (n : Nat) (pf : Nat) (pn : Nat) (pr : Nat → Int32) (wi : Int32) (M : ms_T) (hf : Int32) (lim : Int32) (nt : Int32) (lt : Int32) (nb : Nat → Int32) (su : Nat → Int32) (wt : Nat → Int32) (ch : Nat → Int32) (le : Nat → Int32) (fl : Nat → Int32) (ep : Int32) (L : List Nat) (hh : Nat → Nat) (ff : Nat → Nat) (rw : Nat → Nat → Int32) (g : Nat) (j : Nat) (x : Nat) (sb : BitVec 8) (wb : BitVec 8) (hk : k < 2 ^ 20) (hn : n < 2 ^ 20) (hhL : ∀ i, i < n + 1 → hh i ∈ L) (ffL : ∀ i, i < n + 1 → ff i ∈ L) (hg : g < k) (hj : j < 64) (hx1 : nb g = nI x) (hx2 : x < n + 1) (hsb : rw (hh x) j = bI sb) (hwb : wt g = bI wb) : sd_I l D (tyL cI cZ cQ) y_H_term b_H_term 4 (.int) ({ frames := 1, cells := 0, slots := 0, locals := 24 }) [.ref qh, .int (nI g), .ref qH, .int (nI j)] ((vW cI cQ cZ qv qp qr qj qg qs qh qn qu qw qH qF qc ql qf (nI (k)) (nI (n)) (ep) (nI (pf)) (nI (pn)) (1000) (pr) (wi) (M.2.2.2) (hf) (nI M.2.2.1) (lim) (nt) (lt) (nI (M.1)) (192) (M.2.1) (k) (nb) (k) (su) (k) (wt) (n + 1) (fun i => if i < n + 1 then some (hh i) else none) (n + 1) (fun i => if i < n + 1 then some (ff i) else none) (k) (ch) (8) (le) (n + 1) (fl)) ++ va_pl L (rowE cI rw)) (bI (gf_m sb wb)) ((vW cI cQ cZ qv qp qr qj qg qs qh qn qu qw qH qF qc ql qf (nI (k)) (nI (n)) (ep) (nI (pf)) (nI (pn)) (1000) (pr) (wi) (M.2.2.2) (hf) (nI M.2.2.1) (lim) (nt) (lt) (nI (M.1)) (192) (M.2.1) (k) (nb) (k) (su) (k) (wt) (n + 1) (fun i => if i < n + 1 then some (hh i) else none) (n + 1) (fun i => if i < n + 1 then some (ff i) else none) (k) (ch) (8) (le) (n + 1) (fl)) ++ va_pl L (rowE cI rw)) := by
  refine sd_ofI (by decide) (Nat.le_of_ble_eq_true rfl) ?_
  intro p e s m below meth c A ls hx hb hr hml hlk hown hts hK hP hD hA hS hl
  have hl : lv_has ls 4 [(0, .ref qh), (1, .int (nI g)), (2, .ref qH), (3, .int (nI j))] := hl
  refine lv_aload_n hx hb d_H_term_0 rfl (lv_at hl 2 rfl) ?_
  refine lv_aload_n hx hb d_H_term_1 rfl (lv_at hl 0 rfl) ?_
  refine va_get (D := D) (ci := 3) (v := .ref qn) (C := R_H) (T := F_H) (N := 3) hx hb hts wl_H hown hK hP 6 rfl rfl 0 (by decide) (hts _ wf_H_7) (fun _ h9 => h9) rfl d_H_term_2 ?_
  refine lv_iload_n hx hb d_H_term_5 rfl (lv_at hl 1 rfl) ?_
  refine sd_iald (j := g) hx hb hK hP 7 0 rfl rfl (by omega) (by omega) d_H_term_6 ?_
  refine sd_top (y := nI (x)) (hx1) ?_
  refine sd_aald (j := x) (z := hh (x)) hx hb hK hP 10 2 rfl rfl (by omega) (by omega) (if_pos (by omega)) d_H_term_7 ?_
  refine lv_iload_n hx hb d_H_term_8 rfl (lv_at hl 3 rfl) ?_
  refine sd_rld (z := hh (x)) (j := j) hx hb hK hP (hhL (x) (by omega)) 0 rfl (by omega) d_H_term_9 ?_
  refine sd_top (y := bI (sb)) (hsb) ?_
  refine lv_aload_n hx hb d_H_term_10 rfl (lv_at hl 0 rfl) ?_
  refine va_get (D := D) (ci := 3) (v := .ref qw) (C := R_H) (T := F_H) (N := 3) hx hb hts wl_H hown hK hP 6 rfl rfl 2 (by decide) (hts _ wf_H_16) (fun _ h9 => h9) rfl d_H_term_11 ?_
  refine lv_iload_n hx hb d_H_term_14 rfl (lv_at hl 1 rfl) ?_
  refine sd_iald (j := g) hx hb hK hP 9 0 rfl rfl (by omega) (by omega) d_H_term_15 ?_
  refine sd_top (y := bI (wb)) (hwb) ?_
  refine sd_callSI (As := [.int (bI sb), .int (bI wb)]) (rest := []) (cx := []) (w1 := []) (c_B_product l D cI cZ cQ (sb) (wb)) ⟨wc_B_product, wm_H_19, wi_B, by decide, by decide, show (parseMethodDescriptor y_B_product.desc).map (fun d => d.parameters.length) = some 2 by decide +kernel⟩ ws_B_product hx hb hml hown hts hl.1 ⟨Nat.le_of_ble_eq_true rfl, Nat.le_of_ble_eq_true rfl⟩ ⟨Nat.le_of_ble_eq_true rfl, Nat.le_of_ble_eq_true rfl⟩ hK hP hD hS hA [] rfl (by decide) rfl rfl rfl (Nat.le_of_ble_eq_true rfl) d_H_term_16 (fun H locs hP hD hS => ?_)
  have hP : va_P D cls ((vW cI cQ cZ qv qp qr qj qg qs qh qn qu qw qH qF qc ql qf (nI (k)) (nI (n)) (ep) (nI (pf)) (nI (pn)) (1000) (pr) (wi) (M.2.2.2) (hf) (nI M.2.2.1) (lim) (nt) (lt) (nI (M.1)) (192) (M.2.1) (k) (nb) (k) (su) (k) (wt) (n + 1) (fun i => if i < n + 1 then some (hh i) else none) (n + 1) (fun i => if i < n + 1 then some (ff i) else none) (k) (ch) (8) (le) (n + 1) (fl)) ++ va_pl L (rowE cI rw)) H := hP
  have hD : va_D A ((vW cI cQ cZ qv qp qr qj qg qs qh qn qu qw qH qF qc ql qf (nI (k)) (nI (n)) (ep) (nI (pf)) (nI (pn)) (1000) (pr) (wi) (M.2.2.2) (hf) (nI M.2.2.1) (lim) (nt) (lt) (nI (M.1)) (192) (M.2.1) (k) (nb) (k) (su) (k) (wt) (n + 1) (fun i => if i < n + 1 then some (hh i) else none) (n + 1) (fun i => if i < n + 1 then some (ff i) else none) (k) (ch) (8) (le) (n + 1) (fl)) ++ va_pl L (rowE cI rw)) := hD
  exact sd_iret hx hb hr hlk hP hS (Nat.le_of_ble_eq_true rfl) (Nat.le_of_ble_eq_true rfl) (rfl) d_H_term_19
set_option maxHeartbeats 4000000 in
set_option maxRecDepth 100000 in
theorem c_H_join (l : Launch) (D : va_G) (cI cZ cQ : ClassId) (qv : Nat) (qp : Nat) (qr : Nat) (qj : Nat) (qg : Nat) (qs : Nat) (qh : Nat) (qn : Nat) (qu : Nat) (qw : Nat) (qH : Nat) (qF : Nat) (qc : Nat) (ql : Nat) (qf : Nat) (k : Nat) (n : Nat) (pf : Nat) (pn : Nat) (pr : Nat → Int32) (wi : Int32) (M : ms_T) (hf : Int32) (lim : Int32) (nt : Int32) (lt : Int32) (nb : Nat → Int32) (su : Nat → Int32) (wt : Nat → Int32) (ch : Nat → Int32) (le : Nat → Int32) (fl : Nat → Int32) (ep : Int32) (L : List Nat) (hh : Nat → Nat) (ff : Nat → Nat) (rw : Nat → Nat → Int32) (j : Nat) (xs : Nat → Nat) (sb : Nat → BitVec 8) (wb : Nat → BitVec 8) (hk : k < 2 ^ 20) (hn : n < 2 ^ 20) (hhL : ∀ i, i < n + 1 → hh i ∈ L) (ffL : ∀ i, i < n + 1 → ff i ∈ L) (hj : j < 64) (hx1 : ∀ g, g < k → nb g = nI (xs g)) (hx2 : ∀ g, g < k → xs g < n + 1) (hsb : ∀ g, g < k → rw (hh (xs g)) j = bI (sb g)) (hwb : ∀ g, g < k → wt g = bI (wb g)) : sd_I l D (tyL cI cZ cQ) y_H_join b_H_join 5 (.int) ({ frames := 2, cells := 0, slots := 0, locals := 47 }) [.ref qh, .ref qH, .int (nI j)] ((vW cI cQ cZ qv qp qr qj qg qs qh qn qu qw qH qF qc ql qf (nI (k)) (nI (n)) (ep) (nI (pf)) (nI (pn)) (1000) (pr) (wi) (M.2.2.2) (hf) (nI M.2.2.1) (lim) (nt) (lt) (nI (M.1)) (192) (M.2.1) (k) (nb) (k) (su) (k) (wt) (n + 1) (fun i => if i < n + 1 then some (hh i) else none) (n + 1) (fun i => if i < n + 1 then some (ff i) else none) (k) (ch) (8) (le) (n + 1) (fl)) ++ va_pl L (rowE cI rw)) (bI (gf_L sb wb k)) ((vW cI cQ cZ qv qp qr qj qg qs qh qn qu qw qH qF qc ql qf (nI (k)) (nI (n)) (ep) (nI (pf)) (nI (pn)) (1000) (pr) (wi) (M.2.2.2) (hf) (nI M.2.2.1) (lim) (nt) (lt) (nI (M.1)) (192) (M.2.1) (k) (nb) (k) (su) (k) (wt) (n + 1) (fun i => if i < n + 1 then some (hh i) else none) (n + 1) (fun i => if i < n + 1 then some (ff i) else none) (k) (ch) (8) (le) (n + 1) (fl)) ++ va_pl L (rowE cI rw)) := by
  refine sd_ofI (by decide) (Nat.le_of_ble_eq_true rfl) ?_
  intro p e s m below meth c A ls hx hb hr hml hlk hown hts hK hP hD hA hS hl
  have hl : lv_has ls 5 [(0, .ref qh), (1, .ref qH), (2, .int (nI j))] := hl
  refine lv_iconst (v := 0) hx hb d_H_join_0 (by decide) ?_
  refine sd_top (y := bI 0#8) (bI_0.symm) ?_
  refine lv_istore_n hx hb d_H_join_1 rfl hl (Nat.le_of_ble_eq_true rfl) (lv' := [(3, .int (bI 0#8)), (0, .ref qh), (1, .ref qH), (2, .int (nI j))]) rfl (fun ls hl => ?_)
  refine lv_iconst (v := 0) hx hb d_H_join_2 (by decide) ?_
  refine sd_top (y := nI 0) (rfl) ?_
  refine lv_istore hx hb d_H_join_3 hl (Nat.le_of_ble_eq_true rfl) (lv' := [(4, .int (nI 0)), (3, .int (bI 0#8)), (0, .ref qh), (1, .ref qH), (2, .int (nI j))]) rfl (fun ls hl => ?_)
  have hl := lv_sub hl (l' := [(0, .ref qh), (1, .ref qH), (2, .int (nI j)), (3, .int (bI 0#8)), (4, .int (nI 0))]) [2, 3, 4, 1, 0] rfl
  have loop5 : ∀ (d : Nat) (g : Nat) (ls : Array Slot) (H : Heap) (locs : List Loc), k - g = d → (g ≤ k) → lv_has ls 5 [(0, .ref qh), (1, .ref qH), (2, .int (nI j)), (3, .int (bI (gf_L sb wb g))), (4, .int (nI (g)))] → va_P D cls ((vW cI cQ cZ qv qp qr qj qg qs qh qn qu qw qH qF qc ql qf (nI (k)) (nI (n)) (ep) (nI (pf)) (nI (pn)) (1000) (pr) (wi) (M.2.2.2) (hf) (nI M.2.2.1) (lim) (nt) (lt) (nI (M.1)) (192) (M.2.1) (k) (nb) (k) (su) (k) (wt) (n + 1) (fun i => if i < n + 1 then some (hh i) else none) (n + 1) (fun i => if i < n + 1 then some (ff i) else none) (k) (ch) (8) (le) (n + 1) (fl)) ++ va_pl L (rowE cI rw)) H → va_D A ((vW cI cQ cZ qv qp qr qj qg qs qh qn qu qw qH qF qc ql qf (nI (k)) (nI (n)) (ep) (nI (pf)) (nI (pn)) (1000) (pr) (wi) (M.2.2.2) (hf) (nI M.2.2.1) (lim) (nt) (lt) (nI (M.1)) (192) (M.2.1) (k) (nb) (k) (su) (k) (wt) (n + 1) (fun i => if i < n + 1 then some (hh i) else none) (n + 1) (fun i => if i < n + 1 then some (ff i) else none) (k) (ch) (8) (le) (n + 1) (fl)) ++ va_pl L (rowE cI rw)) → va_S A s.heap H locs → W p l e ({ frames := 2, cells := 0, slots := 0, locals := 47 }) s m ([.ref qh, .ref qH, .int (nI j)] : List Value).toArray below meth c H locs 0 0 (MQ below (sd_qi D (bI (gf_L sb wb k)) ((vW cI cQ cZ qv qp qr qj qg qs qh qn qu qw qH qF qc ql qf (nI (k)) (nI (n)) (ep) (nI (pf)) (nI (pn)) (1000) (pr) (wi) (M.2.2.2) (hf) (nI M.2.2.1) (lim) (nt) (lt) (nI (M.1)) (192) (M.2.1) (k) (nb) (k) (su) (k) (wt) (n + 1) (fun i => if i < n + 1 then some (hh i) else none) (n + 1) (fun i => if i < n + 1 then some (ff i) else none) (k) (ch) (8) (le) (n + 1) (fl)) ++ va_pl L (rowE cI rw)) A) ([.ref qh, .ref qH, .int (nI j)] : List Value).toArray s 0 0 A) (F0 m 5 ls []) := by
    intro d
    induction d using Nat.strongRecOn with
    | _ d ih5 =>
    intro g ls H locs hd hg hl hP hD hS
    subst hd
    refine lv_iload hx hb d_H_join_5 (lv_at hl 4 rfl) ?_
    refine lv_aload_n hx hb d_H_join_7 rfl (lv_at hl 0 rfl) ?_
    refine va_get (D := D) (ci := 3) (v := .ref qn) (C := R_H) (T := F_H) (N := 3) hx hb hts wl_H hown hK hP 6 rfl rfl 0 (by decide) (hts _ wf_H_7) (fun _ h9 => h9) rfl d_H_join_8 ?_
    refine va_alen hx hb hK hP 7 0 rfl rfl (v := nI (k)) rfl d_H_join_11 ?_
    refine lv_icmp_ge (tgt := 32) hx hb d_H_join_12 rfl (fun hc12 => ?_) (fun hc12 => ?_)
    · skip
      rw [nI_leI (by omega) (by omega)] at hc12
      refine lv_iload_n hx hb d_H_join_32 rfl (lv_at hl 3 rfl) ?_
      have hgk : k = g := by omega
      subst hgk
      exact sd_iret hx hb hr hlk hP hS (Nat.le_of_ble_eq_true rfl) (Nat.le_of_ble_eq_true rfl) (rfl) d_H_join_33
    · skip
      rw [nI_leI (by omega) (by omega)] at hc12
      refine lv_iload_n hx hb d_H_join_15 rfl (lv_at hl 3 rfl) ?_
      refine lv_aload_n hx hb d_H_join_16 rfl (lv_at hl 0 rfl) ?_
      refine lv_iload hx hb d_H_join_17 (lv_at hl 4 rfl) ?_
      refine lv_aload_n hx hb d_H_join_19 rfl (lv_at hl 1 rfl) ?_
      refine lv_iload_n hx hb d_H_join_20 rfl (lv_at hl 2 rfl) ?_
      refine sd_allVI (As := [.int (nI g), .ref qH, .int (nI j)]) (rest := [.int (bI (gf_L sb wb g))]) (w1 := ((vW cI cQ cZ qv qp qr qj qg qs qh qn qu qw qH qF qc ql qf (nI (k)) (nI (n)) (ep) (nI (pf)) (nI (pn)) (1000) (pr) (wi) (M.2.2.2) (hf) (nI M.2.2.1) (lim) (nt) (lt) (nI (M.1)) (192) (M.2.1) (k) (nb) (k) (su) (k) (wt) (n + 1) (fun i => if i < n + 1 then some (hh i) else none) (n + 1) (fun i => if i < n + 1 then some (ff i) else none) (k) (ch) (8) (le) (n + 1) (fl)) ++ va_pl L (rowE cI rw))) (c_H_term l D cI cZ cQ (qv) (qp) (qr) (qj) (qg) (qs) (qh) (qn) (qu) (qw) (qH) (qF) (qc) (ql) (qf) (k) (n) (pf) (pn) (pr) (wi) (M) (hf) (lim) (nt) (lt) (nb) (su) (wt) (ch) (le) (fl) (ep) (L) (hh) (ff) (rw) (g) (j) (xs g) (sb g) (wb g) (hk) (hn) (hhL) (ffL) (by omega) (hj) (hx1 g (by omega)) (hx2 g (by omega)) (hsb g (by omega)) (hwb g (by omega))) ⟨wc_H_term, wm_H_28, wi_H, by decide, by decide, show (parseMethodDescriptor y_H_term.desc).map (fun d => d.parameters.length) = some 3 by decide +kernel⟩ wo_H_term wz_H_term hx hb hml hown hts hl.1 ⟨Nat.le_of_ble_eq_true rfl, Nat.le_of_ble_eq_true rfl⟩ ⟨Nat.le_of_ble_eq_true rfl, Nat.le_of_ble_eq_true rfl⟩ hK hP hD hS hA (rfl) (q0 := 6) rfl rfl rfl (Nat.le_of_ble_eq_true rfl) d_H_join_21 (fun H locs hP hD hS => ?_)
      have hP : va_P D cls ((vW cI cQ cZ qv qp qr qj qg qs qh qn qu qw qH qF qc ql qf (nI (k)) (nI (n)) (ep) (nI (pf)) (nI (pn)) (1000) (pr) (wi) (M.2.2.2) (hf) (nI M.2.2.1) (lim) (nt) (lt) (nI (M.1)) (192) (M.2.1) (k) (nb) (k) (su) (k) (wt) (n + 1) (fun i => if i < n + 1 then some (hh i) else none) (n + 1) (fun i => if i < n + 1 then some (ff i) else none) (k) (ch) (8) (le) (n + 1) (fl)) ++ va_pl L (rowE cI rw)) H := hP
      have hD : va_D A ((vW cI cQ cZ qv qp qr qj qg qs qh qn qu qw qH qF qc ql qf (nI (k)) (nI (n)) (ep) (nI (pf)) (nI (pn)) (1000) (pr) (wi) (M.2.2.2) (hf) (nI M.2.2.1) (lim) (nt) (lt) (nI (M.1)) (192) (M.2.1) (k) (nb) (k) (su) (k) (wt) (n + 1) (fun i => if i < n + 1 then some (hh i) else none) (n + 1) (fun i => if i < n + 1 then some (ff i) else none) (k) (ch) (8) (le) (n + 1) (fl)) ++ va_pl L (rowE cI rw)) := hD
      refine lv_ixor hx hb d_H_join_24 ?_
      refine sd_top (y := bI (gf_L sb wb g ^^^ gf_m (sb g) (wb g))) (bI_xor _ _) ?_
      refine lv_istore_n hx hb d_H_join_25 rfl hl (Nat.le_of_ble_eq_true rfl) (lv' := [(3, .int (bI (gf_L sb wb g ^^^ gf_m (sb g) (wb g)))), (0, .ref qh), (1, .ref qH), (2, .int (nI j)), (4, .int (nI (g)))]) rfl (fun ls hl => ?_)
      refine lv_iinc hx hb d_H_join_26 hl (k := 4) rfl (v := nI (g + 1)) (ii_1 _) (Nat.le_of_ble_eq_true rfl) (lv' := [(4, .int (nI (g + 1))), (3, .int (bI (gf_L sb wb g ^^^ gf_m (sb g) (wb g)))), (0, .ref qh), (1, .ref qH), (2, .int (nI j))]) rfl (fun ls hl => ?_)
      refine lv_goto (tgt := 5) hx hb d_H_join_29 rfl ?_
      have hl := lv_sub hl (l' := [(0, .ref qh), (1, .ref qH), (2, .int (nI j)), (3, .int (bI (gf_L sb wb g ^^^ gf_m (sb g) (wb g)))), (4, .int (nI (g + 1)))]) [2, 3, 4, 1, 0] rfl
      exact ih5 _ (by omega) (g + 1) ls _ _ rfl (by omega) hl hP hD hS
  exact loop5 _ (0) ls _ _ rfl (Nat.zero_le _) hl hP hD hS
set_option maxHeartbeats 4000000 in
set_option maxRecDepth 100000 in
theorem c_V_slot (l : Launch) (D : va_G) (cI cZ cQ : ClassId) (f : Nat) (b : Nat) : sd_I l D (tyL cI cZ cQ) y_V_slot b_V_slot 2 (.int) ({ frames := 0, cells := 0, slots := 0, locals := 0 }) [.int (nI f), .int (nI b)] [] (nI (f * 8 + b)) [] := by
  refine sd_ofI (by decide) (Nat.le_of_ble_eq_true rfl) ?_
  intro p e s m below meth c A ls hx hb hr hml hlk hown hts hK hP hD hA hS hl
  have hl : lv_has ls 2 [(0, .int (nI f)), (1, .int (nI b))] := hl
  refine lv_iload_n hx hb d_V_slot_0 rfl (lv_at hl 0 rfl) ?_
  refine lv_bipush (v := nI 8) hx hb d_V_slot_1 (by decide) ?_
  refine lv_imul hx hb d_V_slot_3 ?_
  refine sd_top (y := nI (f * 8)) (pk_mul _ _) ?_
  refine lv_iload_n hx hb d_V_slot_4 rfl (lv_at hl 1 rfl) ?_
  refine lv_iadd hx hb d_V_slot_5 ?_
  refine sd_top (y := nI (f * 8 + b)) (nI_add _ _) ?_
  exact sd_iret hx hb hr hlk hP hS (Nat.le_of_ble_eq_true rfl) (Nat.le_of_ble_eq_true rfl) (rfl) d_V_slot_6
set_option maxHeartbeats 4000000 in
set_option maxRecDepth 100000 in
theorem c_V_takenPerByte (l : Launch) (D : va_G) (cI cZ cQ : ClassId) (qv : Nat) (qp : Nat) (qr : Nat) (qj : Nat) (qg : Nat) (qs : Nat) (qh : Nat) (qn : Nat) (qu : Nat) (qw : Nat) (qH : Nat) (qF : Nat) (qc : Nat) (ql : Nat) (qf : Nat) (k : Nat) (n : Nat) (pf : Nat) (pn : Nat) (pr : Nat → Int32) (wi : Int32) (M : ms_T) (hf : Int32) (lim : Int32) (nt : Int32) (lt : Int32) (nb : Nat → Int32) (su : Nat → Int32) (wt : Nat → Int32) (ch : Nat → Int32) (le : Nat → Int32) (fl : Nat → Int32) (ep : Int32) (L : List Nat) (hh : Nat → Nat) (ff : Nat → Nat) (rw : Nat → Nat → Int32) (q : Nat) (hk : k < 2 ^ 20) (hn : n < 2 ^ 20) (hhL : ∀ i, i < n + 1 → hh i ∈ L) (ffL : ∀ i, i < n + 1 → ff i ∈ L) (hk2 : 2 ≤ k) (hq : q < 2 ^ 20) : sd_I l D (tyL cI cZ cQ) y_V_takenPerByte b_V_takenPerByte 2 (.int) ({ frames := 0, cells := 0, slots := 0, locals := 0 }) [.ref qv, .int (nI q)] ((vW cI cQ cZ qv qp qr qj qg qs qh qn qu qw qH qF qc ql qf (nI (k)) (nI (n)) (ep) (nI (pf)) (nI (pn)) (1000) (pr) (wi) (M.2.2.2) (hf) (nI M.2.2.1) (lim) (nt) (lt) (nI (M.1)) (192) (M.2.1) (k) (nb) (k) (su) (k) (wt) (n + 1) (fun i => if i < n + 1 then some (hh i) else none) (n + 1) (fun i => if i < n + 1 then some (ff i) else none) (k) (ch) (8) (le) (n + 1) (fl)) ++ va_pl L (rowE cI rw)) (nI (tpb k q)) ((vW cI cQ cZ qv qp qr qj qg qs qh qn qu qw qH qF qc ql qf (nI (k)) (nI (n)) (ep) (nI (pf)) (nI (pn)) (1000) (pr) (wi) (M.2.2.2) (hf) (nI M.2.2.1) (lim) (nt) (lt) (nI (M.1)) (192) (M.2.1) (k) (nb) (k) (su) (k) (wt) (n + 1) (fun i => if i < n + 1 then some (hh i) else none) (n + 1) (fun i => if i < n + 1 then some (ff i) else none) (k) (ch) (8) (le) (n + 1) (fl)) ++ va_pl L (rowE cI rw)) := by
  refine sd_ofI (by decide) (Nat.le_of_ble_eq_true rfl) ?_
  intro p e s m below meth c A ls hx hb hr hml hlk hown hts hK hP hD hA hS hl
  have hl : lv_has ls 2 [(0, .ref qv), (1, .int (nI q))] := hl
  refine lv_iload_n hx hb d_V_takenPerByte_0 rfl (lv_at hl 1 rfl) ?_
  refine lv_iconst (v := nI 2) hx hb d_V_takenPerByte_1 (by decide) ?_
  refine lv_icmp_ne (tgt := 19) hx hb d_V_takenPerByte_2 rfl (fun hc2 => ?_) (fun hc2 => ?_)
  · skip
    have hq2 : ¬ q = 2 := fun h => hc2 (by rw [h])
    refine lv_aload_n hx hb d_V_takenPerByte_19 rfl (lv_at hl 0 rfl) ?_
    refine va_get (D := D) (ci := 4) (v := .int (nI (k))) (C := R_V) (T := F_V) (N := 11) hx hb hts wl_V hown hK hP 0 rfl rfl 0 (by decide) (hts _ wf_V_43) (fun _ h9 => h9) rfl d_V_takenPerByte_20 ?_
    refine lv_iconst (v := 1) hx hb d_V_takenPerByte_23 (by decide) ?_
    refine lv_isub hx hb d_V_takenPerByte_24 ?_
    refine sd_top (y := nI (k - 1)) (ni_pred (by omega)) ?_
    exact sd_iret hx hb hr hlk hP hS (Nat.le_of_ble_eq_true rfl) (Nat.le_of_ble_eq_true rfl) (by unfold tpb; first | rw [if_pos hq2] | rw [if_neg hq2]) d_V_takenPerByte_25
  · skip
    have hq2 : q = 2 := (nI_eq (by omega) (by omega)).mp hc2
    refine lv_aload_n hx hb d_V_takenPerByte_5 rfl (lv_at hl 0 rfl) ?_
    refine va_get (D := D) (ci := 4) (v := .int (nI (k))) (C := R_V) (T := F_V) (N := 11) hx hb hts wl_V hown hK hP 0 rfl rfl 0 (by decide) (hts _ wf_V_43) (fun _ h9 => h9) rfl d_V_takenPerByte_6 ?_
    refine lv_aload_n hx hb d_V_takenPerByte_9 rfl (lv_at hl 0 rfl) ?_
    refine va_get (D := D) (ci := 4) (v := .int (nI (k))) (C := R_V) (T := F_V) (N := 11) hx hb hts wl_V hown hK hP 0 rfl rfl 0 (by decide) (hts _ wf_V_43) (fun _ h9 => h9) rfl d_V_takenPerByte_10 ?_
    refine lv_iconst (v := 1) hx hb d_V_takenPerByte_13 (by decide) ?_
    refine lv_isub hx hb d_V_takenPerByte_14 ?_
    refine sd_top (y := nI (k - 1)) (ni_pred (by omega)) ?_
    refine lv_imul hx hb d_V_takenPerByte_15 ?_
    refine sd_top (y := nI (k * (k - 1))) (pk_mul _ _) ?_
    refine lv_goto (tgt := 25) hx hb d_V_takenPerByte_16 rfl ?_
    exact sd_iret hx hb hr hlk hP hS (Nat.le_of_ble_eq_true rfl) (Nat.le_of_ble_eq_true rfl) (by unfold tpb; first | rw [if_pos hq2] | rw [if_neg hq2]) d_V_takenPerByte_25
set_option maxHeartbeats 4000000 in
set_option maxRecDepth 100000 in
theorem c_V_keptBytes (l : Launch) (D : va_G) (cI cZ cQ : ClassId) (qv : Nat) (qp : Nat) (qr : Nat) (qj : Nat) (qg : Nat) (qs : Nat) (qh : Nat) (qn : Nat) (qu : Nat) (qw : Nat) (qH : Nat) (qF : Nat) (qc : Nat) (ql : Nat) (qf : Nat) (k : Nat) (n : Nat) (pf : Nat) (pn : Nat) (pr : Nat → Int32) (wi : Int32) (M : ms_T) (hf : Int32) (lim : Int32) (nt : Int32) (lt : Int32) (nb : Nat → Int32) (su : Nat → Int32) (wt : Nat → Int32) (ch : Nat → Int32) (le : Nat → Int32) (fl : Nat → Int32) (ep : Int32) (L : List Nat) (hh : Nat → Nat) (ff : Nat → Nat) (rw : Nat → Nat → Int32) (ln : Nat → Nat) (hk : k < 2 ^ 20) (hn : n < 2 ^ 20) (hhL : ∀ i, i < n + 1 → hh i ∈ L) (ffL : ∀ i, i < n + 1 → ff i ∈ L) (hle : ∀ i, i < 8 → le i = nI (ln i)) (hln : ∀ i, i < 8 → ln i ≤ 8) : sd_I l D (tyL cI cZ cQ) y_V_keptBytes b_V_keptBytes 3 (.int) ({ frames := 0, cells := 0, slots := 0, locals := 0 }) [.ref qv] ((vW cI cQ cZ qv qp qr qj qg qs qh qn qu qw qH qF qc ql qf (nI (k)) (nI (n)) (ep) (nI (pf)) (nI (pn)) (1000) (pr) (wi) (M.2.2.2) (hf) (nI M.2.2.1) (lim) (nt) (lt) (nI (M.1)) (192) (M.2.1) (k) (nb) (k) (su) (k) (wt) (n + 1) (fun i => if i < n + 1 then some (hh i) else none) (n + 1) (fun i => if i < n + 1 then some (ff i) else none) (k) (ch) (8) (le) (n + 1) (fl)) ++ va_pl L (rowE cI rw)) (nI (sm_b ln 8)) ((vW cI cQ cZ qv qp qr qj qg qs qh qn qu qw qH qF qc ql qf (nI (k)) (nI (n)) (ep) (nI (pf)) (nI (pn)) (1000) (pr) (wi) (M.2.2.2) (hf) (nI M.2.2.1) (lim) (nt) (lt) (nI (M.1)) (192) (M.2.1) (k) (nb) (k) (su) (k) (wt) (n + 1) (fun i => if i < n + 1 then some (hh i) else none) (n + 1) (fun i => if i < n + 1 then some (ff i) else none) (k) (ch) (8) (le) (n + 1) (fl)) ++ va_pl L (rowE cI rw)) := by
  refine sd_ofI (by decide) (Nat.le_of_ble_eq_true rfl) ?_
  intro p e s m below meth c A ls hx hb hr hml hlk hown hts hK hP hD hA hS hl
  have hl : lv_has ls 3 [(0, .ref qv)] := hl
  refine lv_iconst (v := 0) hx hb d_V_keptBytes_0 (by decide) ?_
  refine sd_top (y := nI 0) (rfl) ?_
  refine lv_istore_n hx hb d_V_keptBytes_1 rfl hl (Nat.le_of_ble_eq_true rfl) (lv' := [(1, .int (nI 0)), (0, .ref qv)]) rfl (fun ls hl => ?_)
  refine lv_iconst (v := 0) hx hb d_V_keptBytes_2 (by decide) ?_
  refine sd_top (y := nI 0) (rfl) ?_
  refine lv_istore_n hx hb d_V_keptBytes_3 rfl hl (Nat.le_of_ble_eq_true rfl) (lv' := [(2, .int (nI 0)), (1, .int (nI 0)), (0, .ref qv)]) rfl (fun ls hl => ?_)
  have hl := lv_sub hl (l' := [(0, .ref qv), (1, .int (nI 0)), (2, .int (nI 0))]) [2, 1, 0] rfl
  have loop4 : ∀ (d : Nat) (f : Nat) (ls : Array Slot) (H : Heap) (locs : List Loc), 8 - f = d → (f ≤ 8) → lv_has ls 3 [(0, .ref qv), (1, .int (nI (sm_b ln f))), (2, .int (nI (f)))] → va_P D cls ((vW cI cQ cZ qv qp qr qj qg qs qh qn qu qw qH qF qc ql qf (nI (k)) (nI (n)) (ep) (nI (pf)) (nI (pn)) (1000) (pr) (wi) (M.2.2.2) (hf) (nI M.2.2.1) (lim) (nt) (lt) (nI (M.1)) (192) (M.2.1) (k) (nb) (k) (su) (k) (wt) (n + 1) (fun i => if i < n + 1 then some (hh i) else none) (n + 1) (fun i => if i < n + 1 then some (ff i) else none) (k) (ch) (8) (le) (n + 1) (fl)) ++ va_pl L (rowE cI rw)) H → va_D A ((vW cI cQ cZ qv qp qr qj qg qs qh qn qu qw qH qF qc ql qf (nI (k)) (nI (n)) (ep) (nI (pf)) (nI (pn)) (1000) (pr) (wi) (M.2.2.2) (hf) (nI M.2.2.1) (lim) (nt) (lt) (nI (M.1)) (192) (M.2.1) (k) (nb) (k) (su) (k) (wt) (n + 1) (fun i => if i < n + 1 then some (hh i) else none) (n + 1) (fun i => if i < n + 1 then some (ff i) else none) (k) (ch) (8) (le) (n + 1) (fl)) ++ va_pl L (rowE cI rw)) → va_S A s.heap H locs → W p l e ({ frames := 0, cells := 0, slots := 0, locals := 0 }) s m ([.ref qv] : List Value).toArray below meth c H locs 0 0 (MQ below (sd_qi D (nI (sm_b ln 8)) ((vW cI cQ cZ qv qp qr qj qg qs qh qn qu qw qH qF qc ql qf (nI (k)) (nI (n)) (ep) (nI (pf)) (nI (pn)) (1000) (pr) (wi) (M.2.2.2) (hf) (nI M.2.2.1) (lim) (nt) (lt) (nI (M.1)) (192) (M.2.1) (k) (nb) (k) (su) (k) (wt) (n + 1) (fun i => if i < n + 1 then some (hh i) else none) (n + 1) (fun i => if i < n + 1 then some (ff i) else none) (k) (ch) (8) (le) (n + 1) (fl)) ++ va_pl L (rowE cI rw)) A) ([.ref qv] : List Value).toArray s 0 0 A) (F0 m 4 ls []) := by
    intro d
    induction d using Nat.strongRecOn with
    | _ d ih4 =>
    intro f ls H locs hd hf8 hl hP hD hS
    subst hd
    refine lv_iload_n hx hb d_V_keptBytes_4 rfl (lv_at hl 2 rfl) ?_
    refine lv_bipush (v := nI 8) hx hb d_V_keptBytes_5 (by decide) ?_
    refine lv_icmp_ge (tgt := 25) hx hb d_V_keptBytes_7 rfl (fun hc7 => ?_) (fun hc7 => ?_)
    · skip
      rw [nI_leI (by omega) (by omega)] at hc7
      refine lv_iload_n hx hb d_V_keptBytes_25 rfl (lv_at hl 1 rfl) ?_
      have hf8 : 8 = f := by omega
      subst hf8
      exact sd_iret hx hb hr hlk hP hS (Nat.le_of_ble_eq_true rfl) (Nat.le_of_ble_eq_true rfl) (rfl) d_V_keptBytes_26
    · skip
      rw [nI_leI (by omega) (by omega)] at hc7
      refine lv_iload_n hx hb d_V_keptBytes_10 rfl (lv_at hl 1 rfl) ?_
      refine lv_aload_n hx hb d_V_keptBytes_11 rfl (lv_at hl 0 rfl) ?_
      refine va_get (D := D) (ci := 4) (v := .ref ql) (C := R_V) (T := F_V) (N := 11) hx hb hts wl_V hown hK hP 0 rfl rfl 8 (by decide) (hts _ wf_V_23) (fun _ h9 => h9) rfl d_V_keptBytes_12 ?_
      refine lv_iload_n hx hb d_V_keptBytes_15 rfl (lv_at hl 2 rfl) ?_
      refine sd_iald (j := f) hx hb hK hP 13 0 rfl rfl (by omega) (by omega) d_V_keptBytes_16 ?_
      refine sd_top (y := nI (ln f)) (hle f (by omega)) ?_
      refine lv_iadd hx hb d_V_keptBytes_17 ?_
      refine sd_top (y := nI (sm_b ln f + ln f)) (nI_add _ _) ?_
      refine lv_istore_n hx hb d_V_keptBytes_18 rfl hl (Nat.le_of_ble_eq_true rfl) (lv' := [(1, .int (nI (sm_b ln f + ln f))), (0, .ref qv), (2, .int (nI (f)))]) rfl (fun ls hl => ?_)
      refine lv_iinc hx hb d_V_keptBytes_19 hl (k := 2) rfl (v := nI (f + 1)) (ii_1 _) (Nat.le_of_ble_eq_true rfl) (lv' := [(2, .int (nI (f + 1))), (1, .int (nI (sm_b ln f + ln f))), (0, .ref qv)]) rfl (fun ls hl => ?_)
      refine lv_goto (tgt := 4) hx hb d_V_keptBytes_22 rfl ?_
      have hl := lv_sub hl (l' := [(0, .ref qv), (1, .int (nI (sm_b ln f + ln f))), (2, .int (nI (f + 1)))]) [2, 1, 0] rfl
      exact ih4 _ (by omega) (f + 1) ls _ _ rfl (by omega) hl hP hD hS
  exact loop4 _ (0) ls _ _ rfl (Nat.zero_le _) hl hP hD hS
set_option maxHeartbeats 4000000 in
set_option maxRecDepth 100000 in
theorem c_V_keptFiles (l : Launch) (D : va_G) (cI cZ cQ : ClassId) (qv : Nat) (qp : Nat) (qr : Nat) (qj : Nat) (qg : Nat) (qs : Nat) (qh : Nat) (qn : Nat) (qu : Nat) (qw : Nat) (qH : Nat) (qF : Nat) (qc : Nat) (ql : Nat) (qf : Nat) (k : Nat) (n : Nat) (pf : Nat) (pn : Nat) (pr : Nat → Int32) (wi : Int32) (M : ms_T) (hf : Int32) (lim : Int32) (nt : Int32) (lt : Int32) (nb : Nat → Int32) (su : Nat → Int32) (wt : Nat → Int32) (ch : Nat → Int32) (le : Nat → Int32) (fl : Nat → Int32) (ep : Int32) (L : List Nat) (hh : Nat → Nat) (ff : Nat → Nat) (rw : Nat → Nat → Int32) (ln : Nat → Nat) (hk : k < 2 ^ 20) (hn : n < 2 ^ 20) (hhL : ∀ i, i < n + 1 → hh i ∈ L) (ffL : ∀ i, i < n + 1 → ff i ∈ L) (hle : ∀ i, i < 8 → le i = nI (ln i)) (hln : ∀ i, i < 8 → ln i ≤ 8) : sd_I l D (tyL cI cZ cQ) y_V_keptFiles b_V_keptFiles 3 (.int) ({ frames := 0, cells := 0, slots := 0, locals := 0 }) [.ref qv] ((vW cI cQ cZ qv qp qr qj qg qs qh qn qu qw qH qF qc ql qf (nI (k)) (nI (n)) (ep) (nI (pf)) (nI (pn)) (1000) (pr) (wi) (M.2.2.2) (hf) (nI M.2.2.1) (lim) (nt) (lt) (nI (M.1)) (192) (M.2.1) (k) (nb) (k) (su) (k) (wt) (n + 1) (fun i => if i < n + 1 then some (hh i) else none) (n + 1) (fun i => if i < n + 1 then some (ff i) else none) (k) (ch) (8) (le) (n + 1) (fl)) ++ va_pl L (rowE cI rw)) (nI (sm_k ln 8)) ((vW cI cQ cZ qv qp qr qj qg qs qh qn qu qw qH qF qc ql qf (nI (k)) (nI (n)) (ep) (nI (pf)) (nI (pn)) (1000) (pr) (wi) (M.2.2.2) (hf) (nI M.2.2.1) (lim) (nt) (lt) (nI (M.1)) (192) (M.2.1) (k) (nb) (k) (su) (k) (wt) (n + 1) (fun i => if i < n + 1 then some (hh i) else none) (n + 1) (fun i => if i < n + 1 then some (ff i) else none) (k) (ch) (8) (le) (n + 1) (fl)) ++ va_pl L (rowE cI rw)) := by
  refine sd_ofI (by decide) (Nat.le_of_ble_eq_true rfl) ?_
  intro p e s m below meth c A ls hx hb hr hml hlk hown hts hK hP hD hA hS hl
  have hl : lv_has ls 3 [(0, .ref qv)] := hl
  refine lv_iconst (v := 0) hx hb d_V_keptFiles_0 (by decide) ?_
  refine sd_top (y := nI 0) (rfl) ?_
  refine lv_istore_n hx hb d_V_keptFiles_1 rfl hl (Nat.le_of_ble_eq_true rfl) (lv' := [(1, .int (nI 0)), (0, .ref qv)]) rfl (fun ls hl => ?_)
  refine lv_iconst (v := 0) hx hb d_V_keptFiles_2 (by decide) ?_
  refine sd_top (y := nI 0) (rfl) ?_
  refine lv_istore_n hx hb d_V_keptFiles_3 rfl hl (Nat.le_of_ble_eq_true rfl) (lv' := [(2, .int (nI 0)), (1, .int (nI 0)), (0, .ref qv)]) rfl (fun ls hl => ?_)
  have hl := lv_sub hl (l' := [(0, .ref qv), (1, .int (nI 0)), (2, .int (nI 0))]) [2, 1, 0] rfl
  have loop4 : ∀ (d : Nat) (f : Nat) (ls : Array Slot) (H : Heap) (locs : List Loc), 8 - f = d → (f ≤ 8) → lv_has ls 3 [(0, .ref qv), (1, .int (nI (sm_k ln f))), (2, .int (nI (f)))] → va_P D cls ((vW cI cQ cZ qv qp qr qj qg qs qh qn qu qw qH qF qc ql qf (nI (k)) (nI (n)) (ep) (nI (pf)) (nI (pn)) (1000) (pr) (wi) (M.2.2.2) (hf) (nI M.2.2.1) (lim) (nt) (lt) (nI (M.1)) (192) (M.2.1) (k) (nb) (k) (su) (k) (wt) (n + 1) (fun i => if i < n + 1 then some (hh i) else none) (n + 1) (fun i => if i < n + 1 then some (ff i) else none) (k) (ch) (8) (le) (n + 1) (fl)) ++ va_pl L (rowE cI rw)) H → va_D A ((vW cI cQ cZ qv qp qr qj qg qs qh qn qu qw qH qF qc ql qf (nI (k)) (nI (n)) (ep) (nI (pf)) (nI (pn)) (1000) (pr) (wi) (M.2.2.2) (hf) (nI M.2.2.1) (lim) (nt) (lt) (nI (M.1)) (192) (M.2.1) (k) (nb) (k) (su) (k) (wt) (n + 1) (fun i => if i < n + 1 then some (hh i) else none) (n + 1) (fun i => if i < n + 1 then some (ff i) else none) (k) (ch) (8) (le) (n + 1) (fl)) ++ va_pl L (rowE cI rw)) → va_S A s.heap H locs → W p l e ({ frames := 0, cells := 0, slots := 0, locals := 0 }) s m ([.ref qv] : List Value).toArray below meth c H locs 0 0 (MQ below (sd_qi D (nI (sm_k ln 8)) ((vW cI cQ cZ qv qp qr qj qg qs qh qn qu qw qH qF qc ql qf (nI (k)) (nI (n)) (ep) (nI (pf)) (nI (pn)) (1000) (pr) (wi) (M.2.2.2) (hf) (nI M.2.2.1) (lim) (nt) (lt) (nI (M.1)) (192) (M.2.1) (k) (nb) (k) (su) (k) (wt) (n + 1) (fun i => if i < n + 1 then some (hh i) else none) (n + 1) (fun i => if i < n + 1 then some (ff i) else none) (k) (ch) (8) (le) (n + 1) (fl)) ++ va_pl L (rowE cI rw)) A) ([.ref qv] : List Value).toArray s 0 0 A) (F0 m 4 ls []) := by
    intro d
    induction d using Nat.strongRecOn with
    | _ d ih4 =>
    intro f ls H locs hd hf8 hl hP hD hS
    subst hd
    refine lv_iload_n hx hb d_V_keptFiles_4 rfl (lv_at hl 2 rfl) ?_
    refine lv_bipush (v := nI 8) hx hb d_V_keptFiles_5 (by decide) ?_
    refine lv_icmp_ge (tgt := 33) hx hb d_V_keptFiles_7 rfl (fun hc7 => ?_) (fun hc7 => ?_)
    · skip
      rw [nI_leI (by omega) (by omega)] at hc7
      refine lv_iload_n hx hb d_V_keptFiles_33 rfl (lv_at hl 1 rfl) ?_
      have hf8 : 8 = f := by omega
      subst hf8
      exact sd_iret hx hb hr hlk hP hS (Nat.le_of_ble_eq_true rfl) (Nat.le_of_ble_eq_true rfl) (rfl) d_V_keptFiles_34
    · skip
      rw [nI_leI (by omega) (by omega)] at hc7
      have hl9 := hln f (by omega)
      refine lv_iload_n hx hb d_V_keptFiles_10 rfl (lv_at hl 1 rfl) ?_
      refine lv_aload_n hx hb d_V_keptFiles_11 rfl (lv_at hl 0 rfl) ?_
      refine va_get (D := D) (ci := 4) (v := .ref ql) (C := R_V) (T := F_V) (N := 11) hx hb hts wl_V hown hK hP 0 rfl rfl 8 (by decide) (hts _ wf_V_23) (fun _ h9 => h9) rfl d_V_keptFiles_12 ?_
      refine lv_iload_n hx hb d_V_keptFiles_15 rfl (lv_at hl 2 rfl) ?_
      refine sd_iald (j := f) hx hb hK hP 13 0 rfl rfl (by omega) (by omega) d_V_keptFiles_16 ?_
      refine sd_top (y := nI (ln f)) (hle f (by omega)) ?_
      refine lv_if_le (tgt := 24) hx hb d_V_keptFiles_17 rfl (fun hc17 => ?_) (fun hc17 => ?_)
      · skip
        have hn9 : nI (sm_k ln f) + nI 0 = nI (sm_k ln (f + 1)) := by rw [nI_add, sm_k0 (by rw [show (0 : Int32) = nI 0 from rfl, nI_leI (by omega) (by omega)] at hc17; omega)]; rfl
        refine lv_iconst (v := nI 0) hx hb d_V_keptFiles_24 (by decide) ?_
        refine lv_iadd hx hb d_V_keptFiles_25 ?_
        refine sd_top (y := nI (sm_k ln (f + 1))) (hn9) ?_
        refine lv_istore_n hx hb d_V_keptFiles_26 rfl hl (Nat.le_of_ble_eq_true rfl) (lv' := [(1, .int (nI (sm_k ln (f + 1)))), (0, .ref qv), (2, .int (nI (f)))]) rfl (fun ls hl => ?_)
        refine lv_iinc hx hb d_V_keptFiles_27 hl (k := 2) rfl (v := nI (f + 1)) (ii_1 _) (Nat.le_of_ble_eq_true rfl) (lv' := [(2, .int (nI (f + 1))), (1, .int (nI (sm_k ln (f + 1)))), (0, .ref qv)]) rfl (fun ls hl => ?_)
        refine lv_goto (tgt := 4) hx hb d_V_keptFiles_30 rfl ?_
        have hl := lv_sub hl (l' := [(0, .ref qv), (1, .int (nI (sm_k ln (f + 1)))), (2, .int (nI (f + 1)))]) [2, 1, 0] rfl
        exact ih4 _ (by omega) (f + 1) ls _ _ rfl (by omega) hl hP hD hS
      · skip
        have hn9 : nI (sm_k ln f) + nI 1 = nI (sm_k ln (f + 1)) := by rw [nI_add, sm_k1 (by rw [show (0 : Int32) = nI 0 from rfl, nI_leI (by omega) (by omega)] at hc17; omega)]
        refine lv_iconst (v := nI 1) hx hb d_V_keptFiles_20 (by decide) ?_
        refine lv_goto (tgt := 25) hx hb d_V_keptFiles_21 rfl ?_
        refine lv_iadd hx hb d_V_keptFiles_25 ?_
        refine sd_top (y := nI (sm_k ln (f + 1))) (hn9) ?_
        refine lv_istore_n hx hb d_V_keptFiles_26 rfl hl (Nat.le_of_ble_eq_true rfl) (lv' := [(1, .int (nI (sm_k ln (f + 1)))), (0, .ref qv), (2, .int (nI (f)))]) rfl (fun ls hl => ?_)
        refine lv_iinc hx hb d_V_keptFiles_27 hl (k := 2) rfl (v := nI (f + 1)) (ii_1 _) (Nat.le_of_ble_eq_true rfl) (lv' := [(2, .int (nI (f + 1))), (1, .int (nI (sm_k ln (f + 1)))), (0, .ref qv)]) rfl (fun ls hl => ?_)
        refine lv_goto (tgt := 4) hx hb d_V_keptFiles_30 rfl ?_
        have hl := lv_sub hl (l' := [(0, .ref qv), (1, .int (nI (sm_k ln (f + 1)))), (2, .int (nI (f + 1)))]) [2, 1, 0] rfl
        exact ih4 _ (by omega) (f + 1) ls _ _ rfl (by omega) hl hP hD hS
  exact loop4 _ (0) ls _ _ rfl (Nat.zero_le _) hl hP hD hS
set_option maxHeartbeats 4000000 in
set_option maxRecDepth 100000 in
theorem c_V_filledBoxes (l : Launch) (D : va_G) (cI cZ cQ : ClassId) (qv : Nat) (qp : Nat) (qr : Nat) (qj : Nat) (qg : Nat) (qs : Nat) (qh : Nat) (qn : Nat) (qu : Nat) (qw : Nat) (qH : Nat) (qF : Nat) (qc : Nat) (ql : Nat) (qf : Nat) (k : Nat) (n : Nat) (pf : Nat) (pn : Nat) (pr : Nat → Int32) (wi : Int32) (M : ms_T) (hf : Int32) (lim : Int32) (nt : Int32) (lt : Int32) (nb : Nat → Int32) (su : Nat → Int32) (wt : Nat → Int32) (ch : Nat → Int32) (le : Nat → Int32) (fl : Nat → Int32) (ep : Int32) (L : List Nat) (hh : Nat → Nat) (ff : Nat → Nat) (rw : Nat → Nat → Int32) (hk : k < 2 ^ 20) (hn : n < 2 ^ 20) (hhL : ∀ i, i < n + 1 → hh i ∈ L) (ffL : ∀ i, i < n + 1 → ff i ∈ L) : sd_I l D (tyL cI cZ cQ) y_V_filledBoxes b_V_filledBoxes 3 (.int) ({ frames := 0, cells := 0, slots := 0, locals := 0 }) [.ref qv] ((vW cI cQ cZ qv qp qr qj qg qs qh qn qu qw qH qF qc ql qf (nI (k)) (nI (n)) (ep) (nI (pf)) (nI (pn)) (1000) (pr) (wi) (M.2.2.2) (hf) (nI M.2.2.1) (lim) (nt) (lt) (nI (M.1)) (192) (M.2.1) (k) (nb) (k) (su) (k) (wt) (n + 1) (fun i => if i < n + 1 then some (hh i) else none) (n + 1) (fun i => if i < n + 1 then some (ff i) else none) (k) (ch) (8) (le) (n + 1) (fl)) ++ va_pl L (rowE cI rw)) (nI (sm_f fl n)) ((vW cI cQ cZ qv qp qr qj qg qs qh qn qu qw qH qF qc ql qf (nI (k)) (nI (n)) (ep) (nI (pf)) (nI (pn)) (1000) (pr) (wi) (M.2.2.2) (hf) (nI M.2.2.1) (lim) (nt) (lt) (nI (M.1)) (192) (M.2.1) (k) (nb) (k) (su) (k) (wt) (n + 1) (fun i => if i < n + 1 then some (hh i) else none) (n + 1) (fun i => if i < n + 1 then some (ff i) else none) (k) (ch) (8) (le) (n + 1) (fl)) ++ va_pl L (rowE cI rw)) := by
  refine sd_ofI (by decide) (Nat.le_of_ble_eq_true rfl) ?_
  intro p e s m below meth c A ls hx hb hr hml hlk hown hts hK hP hD hA hS hl
  have hl : lv_has ls 3 [(0, .ref qv)] := hl
  refine lv_iconst (v := 0) hx hb d_V_filledBoxes_0 (by decide) ?_
  refine sd_top (y := nI 0) (rfl) ?_
  refine lv_istore_n hx hb d_V_filledBoxes_1 rfl hl (Nat.le_of_ble_eq_true rfl) (lv' := [(1, .int (nI 0)), (0, .ref qv)]) rfl (fun ls hl => ?_)
  refine lv_iconst (v := 1) hx hb d_V_filledBoxes_2 (by decide) ?_
  refine sd_top (y := nI 1) (rfl) ?_
  refine lv_istore_n hx hb d_V_filledBoxes_3 rfl hl (Nat.le_of_ble_eq_true rfl) (lv' := [(2, .int (nI 1)), (1, .int (nI 0)), (0, .ref qv)]) rfl (fun ls hl => ?_)
  have hl := lv_sub hl (l' := [(0, .ref qv), (1, .int (nI 0)), (2, .int (nI 1))]) [2, 1, 0] rfl
  have loop4 : ∀ (d : Nat) (b : Nat) (ls : Array Slot) (H : Heap) (locs : List Loc), n - b = d → (b ≤ n) → lv_has ls 3 [(0, .ref qv), (1, .int (nI (sm_f fl b))), (2, .int (nI (b + 1)))] → va_P D cls ((vW cI cQ cZ qv qp qr qj qg qs qh qn qu qw qH qF qc ql qf (nI (k)) (nI (n)) (ep) (nI (pf)) (nI (pn)) (1000) (pr) (wi) (M.2.2.2) (hf) (nI M.2.2.1) (lim) (nt) (lt) (nI (M.1)) (192) (M.2.1) (k) (nb) (k) (su) (k) (wt) (n + 1) (fun i => if i < n + 1 then some (hh i) else none) (n + 1) (fun i => if i < n + 1 then some (ff i) else none) (k) (ch) (8) (le) (n + 1) (fl)) ++ va_pl L (rowE cI rw)) H → va_D A ((vW cI cQ cZ qv qp qr qj qg qs qh qn qu qw qH qF qc ql qf (nI (k)) (nI (n)) (ep) (nI (pf)) (nI (pn)) (1000) (pr) (wi) (M.2.2.2) (hf) (nI M.2.2.1) (lim) (nt) (lt) (nI (M.1)) (192) (M.2.1) (k) (nb) (k) (su) (k) (wt) (n + 1) (fun i => if i < n + 1 then some (hh i) else none) (n + 1) (fun i => if i < n + 1 then some (ff i) else none) (k) (ch) (8) (le) (n + 1) (fl)) ++ va_pl L (rowE cI rw)) → va_S A s.heap H locs → W p l e ({ frames := 0, cells := 0, slots := 0, locals := 0 }) s m ([.ref qv] : List Value).toArray below meth c H locs 0 0 (MQ below (sd_qi D (nI (sm_f fl n)) ((vW cI cQ cZ qv qp qr qj qg qs qh qn qu qw qH qF qc ql qf (nI (k)) (nI (n)) (ep) (nI (pf)) (nI (pn)) (1000) (pr) (wi) (M.2.2.2) (hf) (nI M.2.2.1) (lim) (nt) (lt) (nI (M.1)) (192) (M.2.1) (k) (nb) (k) (su) (k) (wt) (n + 1) (fun i => if i < n + 1 then some (hh i) else none) (n + 1) (fun i => if i < n + 1 then some (ff i) else none) (k) (ch) (8) (le) (n + 1) (fl)) ++ va_pl L (rowE cI rw)) A) ([.ref qv] : List Value).toArray s 0 0 A) (F0 m 4 ls []) := by
    intro d
    induction d using Nat.strongRecOn with
    | _ d ih4 =>
    intro b ls H locs hd hb8 hl hP hD hS
    subst hd
    refine lv_iload_n hx hb d_V_filledBoxes_4 rfl (lv_at hl 2 rfl) ?_
    refine lv_aload_n hx hb d_V_filledBoxes_5 rfl (lv_at hl 0 rfl) ?_
    refine va_get (D := D) (ci := 4) (v := .int (nI (n))) (C := R_V) (T := F_V) (N := 11) hx hb hts wl_V hown hK hP 0 rfl rfl 1 (by decide) (hts _ wf_V_40) (fun _ h9 => h9) rfl d_V_filledBoxes_6 ?_
    refine lv_icmp_gt (tgt := 35) hx hb d_V_filledBoxes_9 rfl (fun hc9 => ?_) (fun hc9 => ?_)
    · skip
      rw [nI_ltI (by omega) (by omega)] at hc9
      refine lv_iload_n hx hb d_V_filledBoxes_35 rfl (lv_at hl 1 rfl) ?_
      have hb8 : n = b := by omega
      subst hb8
      exact sd_iret hx hb hr hlk hP hS (Nat.le_of_ble_eq_true rfl) (Nat.le_of_ble_eq_true rfl) (rfl) d_V_filledBoxes_36
    · skip
      rw [nI_ltI (by omega) (by omega)] at hc9
      refine lv_iload_n hx hb d_V_filledBoxes_12 rfl (lv_at hl 1 rfl) ?_
      refine lv_aload_n hx hb d_V_filledBoxes_13 rfl (lv_at hl 0 rfl) ?_
      refine va_get (D := D) (ci := 4) (v := .ref qf) (C := R_V) (T := F_V) (N := 11) hx hb hts wl_V hown hK hP 0 rfl rfl 9 (by decide) (hts _ wf_V_66) (fun _ h9 => h9) rfl d_V_filledBoxes_14 ?_
      refine lv_iload_n hx hb d_V_filledBoxes_17 rfl (lv_at hl 2 rfl) ?_
      refine sd_zald (j := b + 1) hx hb hK hP 14 1 rfl rfl (by omega) (by omega) d_V_filledBoxes_18 ?_
      refine lv_if_eq (tgt := 26) hx hb d_V_filledBoxes_19 rfl (fun hc19 => ?_) (fun hc19 => ?_)
      · skip
        have hn9 : nI (sm_f fl b) + nI 0 = nI (sm_f fl (b + 1)) := by rw [nI_add, sm_f0 hc19]; rfl
        refine lv_iconst (v := nI 0) hx hb d_V_filledBoxes_26 (by decide) ?_
        refine lv_iadd hx hb d_V_filledBoxes_27 ?_
        refine sd_top (y := nI (sm_f fl (b + 1))) (hn9) ?_
        refine lv_istore_n hx hb d_V_filledBoxes_28 rfl hl (Nat.le_of_ble_eq_true rfl) (lv' := [(1, .int (nI (sm_f fl (b + 1)))), (0, .ref qv), (2, .int (nI (b + 1)))]) rfl (fun ls hl => ?_)
        refine lv_iinc hx hb d_V_filledBoxes_29 hl (k := 2) rfl (v := nI (b + 1 + 1)) (ii_1 _) (Nat.le_of_ble_eq_true rfl) (lv' := [(2, .int (nI (b + 1 + 1))), (1, .int (nI (sm_f fl (b + 1)))), (0, .ref qv)]) rfl (fun ls hl => ?_)
        refine lv_goto (tgt := 4) hx hb d_V_filledBoxes_32 rfl ?_
        have hl := lv_sub hl (l' := [(0, .ref qv), (1, .int (nI (sm_f fl (b + 1)))), (2, .int (nI (b + 1 + 1)))]) [2, 1, 0] rfl
        exact ih4 _ (by omega) (b + 1) ls _ _ rfl (by omega) hl hP hD hS
      · skip
        have hn9 : nI (sm_f fl b) + nI 1 = nI (sm_f fl (b + 1)) := by rw [nI_add, sm_f1 hc19]
        refine lv_iconst (v := nI 1) hx hb d_V_filledBoxes_22 (by decide) ?_
        refine lv_goto (tgt := 27) hx hb d_V_filledBoxes_23 rfl ?_
        refine lv_iadd hx hb d_V_filledBoxes_27 ?_
        refine sd_top (y := nI (sm_f fl (b + 1))) (hn9) ?_
        refine lv_istore_n hx hb d_V_filledBoxes_28 rfl hl (Nat.le_of_ble_eq_true rfl) (lv' := [(1, .int (nI (sm_f fl (b + 1)))), (0, .ref qv), (2, .int (nI (b + 1)))]) rfl (fun ls hl => ?_)
        refine lv_iinc hx hb d_V_filledBoxes_29 hl (k := 2) rfl (v := nI (b + 1 + 1)) (ii_1 _) (Nat.le_of_ble_eq_true rfl) (lv' := [(2, .int (nI (b + 1 + 1))), (1, .int (nI (sm_f fl (b + 1)))), (0, .ref qv)]) rfl (fun ls hl => ?_)
        refine lv_goto (tgt := 4) hx hb d_V_filledBoxes_32 rfl ?_
        have hl := lv_sub hl (l' := [(0, .ref qv), (1, .int (nI (sm_f fl (b + 1)))), (2, .int (nI (b + 1 + 1)))]) [2, 1, 0] rfl
        exact ih4 _ (by omega) (b + 1) ls _ _ rfl (by omega) hl hP hD hS
  exact loop4 _ (0) ls _ _ rfl (Nat.zero_le _) hl hP hD hS
set_option maxHeartbeats 4000000 in
set_option maxRecDepth 100000 in
theorem c_V_pool (l : Launch) (D : va_G) (cI cZ cQ : ClassId) (qv : Nat) (qp : Nat) (qr : Nat) (qj : Nat) (qg : Nat) (qs : Nat) (qh : Nat) (qn : Nat) (qu : Nat) (qw : Nat) (qH : Nat) (qF : Nat) (qc : Nat) (ql : Nat) (qf : Nat) (k : Nat) (n : Nat) (pf : Nat) (pn : Nat) (pr : Nat → Int32) (wi : Int32) (M : ms_T) (hf : Int32) (lim : Int32) (nt : Int32) (lt : Int32) (nb : Nat → Int32) (su : Nat → Int32) (wt : Nat → Int32) (ch : Nat → Int32) (le : Nat → Int32) (fl : Nat → Int32) (ep : Int32) (L : List Nat) (hh : Nat → Nat) (ff : Nat → Nat) (rw : Nat → Nat → Int32) (hk : k < 2 ^ 20) (hn : n < 2 ^ 20) (hhL : ∀ i, i < n + 1 → hh i ∈ L) (ffL : ∀ i, i < n + 1 → ff i ∈ L) : sd_I l D (tyL cI cZ cQ) y_V_pool b_V_pool 1 (.int) ({ frames := 0, cells := 0, slots := 0, locals := 0 }) [.ref qv] ((vW cI cQ cZ qv qp qr qj qg qs qh qn qu qw qH qF qc ql qf (nI (k)) (nI (n)) (ep) (nI (pf)) (nI (pn)) (1000) (pr) (wi) (M.2.2.2) (hf) (nI M.2.2.1) (lim) (nt) (lt) (nI (M.1)) (192) (M.2.1) (k) (nb) (k) (su) (k) (wt) (n + 1) (fun i => if i < n + 1 then some (hh i) else none) (n + 1) (fun i => if i < n + 1 then some (ff i) else none) (k) (ch) (8) (le) (n + 1) (fl)) ++ va_pl L (rowE cI rw)) (nI pn) ((vW cI cQ cZ qv qp qr qj qg qs qh qn qu qw qH qF qc ql qf (nI (k)) (nI (n)) (ep) (nI (pf)) (nI (pn)) (1000) (pr) (wi) (M.2.2.2) (hf) (nI M.2.2.1) (lim) (nt) (lt) (nI (M.1)) (192) (M.2.1) (k) (nb) (k) (su) (k) (wt) (n + 1) (fun i => if i < n + 1 then some (hh i) else none) (n + 1) (fun i => if i < n + 1 then some (ff i) else none) (k) (ch) (8) (le) (n + 1) (fl)) ++ va_pl L (rowE cI rw)) := by
  refine sd_ofI (by decide) (Nat.le_of_ble_eq_true rfl) ?_
  intro p e s m below meth c A ls hx hb hr hml hlk hown hts hK hP hD hA hS hl
  have hl : lv_has ls 1 [(0, .ref qv)] := hl
  refine lv_aload_n hx hb d_V_pool_0 rfl (lv_at hl 0 rfl) ?_
  refine va_get (D := D) (ci := 4) (v := .ref qp) (C := R_V) (T := F_V) (N := 11) hx hb hts wl_V hown hK hP 0 rfl rfl 2 (by decide) (hts _ wf_V_10) (fun _ h9 => h9) rfl d_V_pool_1 ?_
  refine va_get (D := D) (ci := 0) (v := .int (nI (pn))) (C := R_P) (T := F_P) (N := 3) hx hb hts wl_P hown hK hP 1 rfl rfl 2 (by decide) (hts _ wf_V_77) (fun _ h9 => h9) rfl d_V_pool_4 ?_
  exact sd_iret hx hb hr hlk hP hS (Nat.le_of_ble_eq_true rfl) (Nat.le_of_ble_eq_true rfl) (rfl) d_V_pool_7
set_option maxHeartbeats 4000000 in
set_option maxRecDepth 100000 in
theorem c_V_stopped (l : Launch) (D : va_G) (cI cZ cQ : ClassId) (qv : Nat) (qp : Nat) (qr : Nat) (qj : Nat) (qg : Nat) (qs : Nat) (qh : Nat) (qn : Nat) (qu : Nat) (qw : Nat) (qH : Nat) (qF : Nat) (qc : Nat) (ql : Nat) (qf : Nat) (k : Nat) (n : Nat) (pf : Nat) (pn : Nat) (pr : Nat → Int32) (wi : Int32) (M : ms_T) (hf : Int32) (lim : Int32) (nt : Int32) (lt : Int32) (nb : Nat → Int32) (su : Nat → Int32) (wt : Nat → Int32) (ch : Nat → Int32) (le : Nat → Int32) (fl : Nat → Int32) (ep : Int32) (L : List Nat) (hh : Nat → Nat) (ff : Nat → Nat) (rw : Nat → Nat → Int32) (hk : k < 2 ^ 20) (hn : n < 2 ^ 20) (hhL : ∀ i, i < n + 1 → hh i ∈ L) (ffL : ∀ i, i < n + 1 → ff i ∈ L) (hz : narrow .boolean (.int M.2.2.2) = .int M.2.2.2) : sd_I l D (tyL cI cZ cQ) y_V_stopped b_V_stopped 1 (.boolean) ({ frames := 0, cells := 0, slots := 0, locals := 0 }) [.ref qv] ((vW cI cQ cZ qv qp qr qj qg qs qh qn qu qw qH qF qc ql qf (nI (k)) (nI (n)) (ep) (nI (pf)) (nI (pn)) (1000) (pr) (wi) (M.2.2.2) (hf) (nI M.2.2.1) (lim) (nt) (lt) (nI (M.1)) (192) (M.2.1) (k) (nb) (k) (su) (k) (wt) (n + 1) (fun i => if i < n + 1 then some (hh i) else none) (n + 1) (fun i => if i < n + 1 then some (ff i) else none) (k) (ch) (8) (le) (n + 1) (fl)) ++ va_pl L (rowE cI rw)) (M.2.2.2) ((vW cI cQ cZ qv qp qr qj qg qs qh qn qu qw qH qF qc ql qf (nI (k)) (nI (n)) (ep) (nI (pf)) (nI (pn)) (1000) (pr) (wi) (M.2.2.2) (hf) (nI M.2.2.1) (lim) (nt) (lt) (nI (M.1)) (192) (M.2.1) (k) (nb) (k) (su) (k) (wt) (n + 1) (fun i => if i < n + 1 then some (hh i) else none) (n + 1) (fun i => if i < n + 1 then some (ff i) else none) (k) (ch) (8) (le) (n + 1) (fl)) ++ va_pl L (rowE cI rw)) := by
  refine sd_ofI (by decide) (Nat.le_of_ble_eq_true rfl) ?_
  intro p e s m below meth c A ls hx hb hr hml hlk hown hts hK hP hD hA hS hl
  have hl : lv_has ls 1 [(0, .ref qv)] := hl
  refine lv_aload_n hx hb d_V_stopped_0 rfl (lv_at hl 0 rfl) ?_
  refine va_get (D := D) (ci := 4) (v := .ref qj) (C := R_V) (T := F_V) (N := 11) hx hb hts wl_V hown hK hP 0 rfl rfl 3 (by decide) (hts _ wf_V_19) (fun _ h9 => h9) rfl d_V_stopped_1 ?_
  refine va_get (D := D) (ci := 2) (v := .int (M.2.2.2)) (C := R_J) (T := F_J) (N := 8) hx hb hts wl_J hown hK hP 3 rfl rfl 2 (by decide) (hts _ wf_V_177) (fun _ h9 => h9) rfl d_V_stopped_4 ?_
  exact sd_zret hx hb hr hlk hP hS (Nat.le_of_ble_eq_true rfl) (Nat.le_of_ble_eq_true rfl) (rfl) (hz) d_V_stopped_7
set_option maxHeartbeats 4000000 in
set_option maxRecDepth 100000 in
theorem c_V_files (l : Launch) (D : va_G) (cI cZ cQ : ClassId) (qv : Nat) (qp : Nat) (qr : Nat) (qj : Nat) (qg : Nat) (qs : Nat) (qh : Nat) (qn : Nat) (qu : Nat) (qw : Nat) (qH : Nat) (qF : Nat) (qc : Nat) (ql : Nat) (qf : Nat) (k : Nat) (n : Nat) (pf : Nat) (pn : Nat) (pr : Nat → Int32) (wi : Int32) (M : ms_T) (hf : Int32) (lim : Int32) (nt : Int32) (lt : Int32) (nb : Nat → Int32) (su : Nat → Int32) (wt : Nat → Int32) (ch : Nat → Int32) (le : Nat → Int32) (fl : Nat → Int32) (ep : Int32) (L : List Nat) (hh : Nat → Nat) (ff : Nat → Nat) (rw : Nat → Nat → Int32) (ln : Nat → Nat) (hk : k < 2 ^ 20) (hn : n < 2 ^ 20) (hhL : ∀ i, i < n + 1 → hh i ∈ L) (ffL : ∀ i, i < n + 1 → ff i ∈ L) (hle : ∀ i, i < 8 → le i = nI (ln i)) (hln : ∀ i, i < 8 → ln i ≤ 8) : sd_I l D (tyL cI cZ cQ) y_V_files b_V_files 1 (.int) ({ frames := 1, cells := 0, slots := 0, locals := 22 }) [.ref qv] ((vW cI cQ cZ qv qp qr qj qg qs qh qn qu qw qH qF qc ql qf (nI (k)) (nI (n)) (ep) (nI (pf)) (nI (pn)) (1000) (pr) (wi) (M.2.2.2) (hf) (nI M.2.2.1) (lim) (nt) (lt) (nI (M.1)) (192) (M.2.1) (k) (nb) (k) (su) (k) (wt) (n + 1) (fun i => if i < n + 1 then some (hh i) else none) (n + 1) (fun i => if i < n + 1 then some (ff i) else none) (k) (ch) (8) (le) (n + 1) (fl)) ++ va_pl L (rowE cI rw)) (nI (sm_k ln 8)) ((vW cI cQ cZ qv qp qr qj qg qs qh qn qu qw qH qF qc ql qf (nI (k)) (nI (n)) (ep) (nI (pf)) (nI (pn)) (1000) (pr) (wi) (M.2.2.2) (hf) (nI M.2.2.1) (lim) (nt) (lt) (nI (M.1)) (192) (M.2.1) (k) (nb) (k) (su) (k) (wt) (n + 1) (fun i => if i < n + 1 then some (hh i) else none) (n + 1) (fun i => if i < n + 1 then some (ff i) else none) (k) (ch) (8) (le) (n + 1) (fl)) ++ va_pl L (rowE cI rw)) := by
  refine sd_ofI (by decide) (Nat.le_of_ble_eq_true rfl) ?_
  intro p e s m below meth c A ls hx hb hr hml hlk hown hts hK hP hD hA hS hl
  have hl : lv_has ls 1 [(0, .ref qv)] := hl
  refine lv_aload_n hx hb d_V_files_0 rfl (lv_at hl 0 rfl) ?_
  refine sd_allVI (As := []) (rest := []) (w1 := ((vW cI cQ cZ qv qp qr qj qg qs qh qn qu qw qH qF qc ql qf (nI (k)) (nI (n)) (ep) (nI (pf)) (nI (pn)) (1000) (pr) (wi) (M.2.2.2) (hf) (nI M.2.2.1) (lim) (nt) (lt) (nI (M.1)) (192) (M.2.1) (k) (nb) (k) (su) (k) (wt) (n + 1) (fun i => if i < n + 1 then some (hh i) else none) (n + 1) (fun i => if i < n + 1 then some (ff i) else none) (k) (ch) (8) (le) (n + 1) (fl)) ++ va_pl L (rowE cI rw))) (c_V_keptFiles l D cI cZ cQ (qv) (qp) (qr) (qj) (qg) (qs) (qh) (qn) (qu) (qw) (qH) (qF) (qc) (ql) (qf) (k) (n) (pf) (pn) (pr) (wi) (M) (hf) (lim) (nt) (lt) (nb) (su) (wt) (ch) (le) (fl) (ep) (L) (hh) (ff) (rw) (ln) (hk) (hn) (hhL) (ffL) (hle) (hln)) ⟨wc_V_keptFiles, wm_V_199, wi_V, by decide, by decide, show (parseMethodDescriptor y_V_keptFiles.desc).map (fun d => d.parameters.length) = some 0 by decide +kernel⟩ wo_V_keptFiles wz_V_keptFiles hx hb hml hown hts hl.1 ⟨Nat.le_of_ble_eq_true rfl, Nat.le_of_ble_eq_true rfl⟩ ⟨Nat.le_of_ble_eq_true rfl, Nat.le_of_ble_eq_true rfl⟩ hK hP hD hS hA (rfl) (q0 := 0) rfl rfl rfl (Nat.le_of_ble_eq_true rfl) d_V_files_1 (fun H locs hP hD hS => ?_)
  have hP : va_P D cls ((vW cI cQ cZ qv qp qr qj qg qs qh qn qu qw qH qF qc ql qf (nI (k)) (nI (n)) (ep) (nI (pf)) (nI (pn)) (1000) (pr) (wi) (M.2.2.2) (hf) (nI M.2.2.1) (lim) (nt) (lt) (nI (M.1)) (192) (M.2.1) (k) (nb) (k) (su) (k) (wt) (n + 1) (fun i => if i < n + 1 then some (hh i) else none) (n + 1) (fun i => if i < n + 1 then some (ff i) else none) (k) (ch) (8) (le) (n + 1) (fl)) ++ va_pl L (rowE cI rw)) H := hP
  have hD : va_D A ((vW cI cQ cZ qv qp qr qj qg qs qh qn qu qw qH qF qc ql qf (nI (k)) (nI (n)) (ep) (nI (pf)) (nI (pn)) (1000) (pr) (wi) (M.2.2.2) (hf) (nI M.2.2.1) (lim) (nt) (lt) (nI (M.1)) (192) (M.2.1) (k) (nb) (k) (su) (k) (wt) (n + 1) (fun i => if i < n + 1 then some (hh i) else none) (n + 1) (fun i => if i < n + 1 then some (ff i) else none) (k) (ch) (8) (le) (n + 1) (fl)) ++ va_pl L (rowE cI rw)) := hD
  exact sd_iret hx hb hr hlk hP hS (Nat.le_of_ble_eq_true rfl) (Nat.le_of_ble_eq_true rfl) (rfl) d_V_files_4
set_option maxHeartbeats 4000000 in
set_option maxRecDepth 100000 in
theorem c_V_epoch (l : Launch) (D : va_G) (cI cZ cQ : ClassId) (qv : Nat) (qp : Nat) (qr : Nat) (qj : Nat) (qg : Nat) (qs : Nat) (qh : Nat) (qn : Nat) (qu : Nat) (qw : Nat) (qH : Nat) (qF : Nat) (qc : Nat) (ql : Nat) (qf : Nat) (k : Nat) (n : Nat) (pf : Nat) (pn : Nat) (pr : Nat → Int32) (wi : Int32) (M : ms_T) (hf : Int32) (lim : Int32) (nt : Int32) (lt : Int32) (nb : Nat → Int32) (su : Nat → Int32) (wt : Nat → Int32) (ch : Nat → Int32) (le : Nat → Int32) (fl : Nat → Int32) (ep : Int32) (L : List Nat) (hh : Nat → Nat) (ff : Nat → Nat) (rw : Nat → Nat → Int32) (hk : k < 2 ^ 20) (hn : n < 2 ^ 20) (hhL : ∀ i, i < n + 1 → hh i ∈ L) (ffL : ∀ i, i < n + 1 → ff i ∈ L) : sd_I l D (tyL cI cZ cQ) y_V_epoch b_V_epoch 1 (.int) ({ frames := 0, cells := 0, slots := 0, locals := 0 }) [.ref qv] ((vW cI cQ cZ qv qp qr qj qg qs qh qn qu qw qH qF qc ql qf (nI (k)) (nI (n)) (ep) (nI (pf)) (nI (pn)) (1000) (pr) (wi) (M.2.2.2) (hf) (nI M.2.2.1) (lim) (nt) (lt) (nI (M.1)) (192) (M.2.1) (k) (nb) (k) (su) (k) (wt) (n + 1) (fun i => if i < n + 1 then some (hh i) else none) (n + 1) (fun i => if i < n + 1 then some (ff i) else none) (k) (ch) (8) (le) (n + 1) (fl)) ++ va_pl L (rowE cI rw)) (ep) ((vW cI cQ cZ qv qp qr qj qg qs qh qn qu qw qH qF qc ql qf (nI (k)) (nI (n)) (ep) (nI (pf)) (nI (pn)) (1000) (pr) (wi) (M.2.2.2) (hf) (nI M.2.2.1) (lim) (nt) (lt) (nI (M.1)) (192) (M.2.1) (k) (nb) (k) (su) (k) (wt) (n + 1) (fun i => if i < n + 1 then some (hh i) else none) (n + 1) (fun i => if i < n + 1 then some (ff i) else none) (k) (ch) (8) (le) (n + 1) (fl)) ++ va_pl L (rowE cI rw)) := by
  refine sd_ofI (by decide) (Nat.le_of_ble_eq_true rfl) ?_
  intro p e s m below meth c A ls hx hb hr hml hlk hown hts hK hP hD hA hS hl
  have hl : lv_has ls 1 [(0, .ref qv)] := hl
  refine lv_aload_n hx hb d_V_epoch_0 rfl (lv_at hl 0 rfl) ?_
  refine va_get (D := D) (ci := 4) (v := .int (ep)) (C := R_V) (T := F_V) (N := 11) hx hb hts wl_V hown hK hP 0 rfl rfl 10 (by decide) (hts _ wf_V_27) (fun _ h9 => h9) rfl d_V_epoch_1 ?_
  exact sd_iret hx hb hr hlk hP hS (Nat.le_of_ble_eq_true rfl) (Nat.le_of_ble_eq_true rfl) (rfl) d_V_epoch_4
set_option maxHeartbeats 4000000 in
set_option maxRecDepth 100000 in
theorem c_V_sent (l : Launch) (D : va_G) (cI cZ cQ : ClassId) (qv : Nat) (qp : Nat) (qr : Nat) (qj : Nat) (qg : Nat) (qs : Nat) (qh : Nat) (qn : Nat) (qu : Nat) (qw : Nat) (qH : Nat) (qF : Nat) (qc : Nat) (ql : Nat) (qf : Nat) (k : Nat) (n : Nat) (pf : Nat) (pn : Nat) (pr : Nat → Int32) (wi : Int32) (M : ms_T) (hf : Int32) (lim : Int32) (nt : Int32) (lt : Int32) (nb : Nat → Int32) (su : Nat → Int32) (wt : Nat → Int32) (ch : Nat → Int32) (le : Nat → Int32) (fl : Nat → Int32) (ep : Int32) (L : List Nat) (hh : Nat → Nat) (ff : Nat → Nat) (rw : Nat → Nat → Int32) (hk : k < 2 ^ 20) (hn : n < 2 ^ 20) (hhL : ∀ i, i < n + 1 → hh i ∈ L) (ffL : ∀ i, i < n + 1 → ff i ∈ L) : sd_I l D (tyL cI cZ cQ) y_V_sent b_V_sent 1 (.int) ({ frames := 0, cells := 0, slots := 0, locals := 0 }) [.ref qv] ((vW cI cQ cZ qv qp qr qj qg qs qh qn qu qw qH qF qc ql qf (nI (k)) (nI (n)) (ep) (nI (pf)) (nI (pn)) (1000) (pr) (wi) (M.2.2.2) (hf) (nI M.2.2.1) (lim) (nt) (lt) (nI (M.1)) (192) (M.2.1) (k) (nb) (k) (su) (k) (wt) (n + 1) (fun i => if i < n + 1 then some (hh i) else none) (n + 1) (fun i => if i < n + 1 then some (ff i) else none) (k) (ch) (8) (le) (n + 1) (fl)) ++ va_pl L (rowE cI rw)) (nI M.1) ((vW cI cQ cZ qv qp qr qj qg qs qh qn qu qw qH qF qc ql qf (nI (k)) (nI (n)) (ep) (nI (pf)) (nI (pn)) (1000) (pr) (wi) (M.2.2.2) (hf) (nI M.2.2.1) (lim) (nt) (lt) (nI (M.1)) (192) (M.2.1) (k) (nb) (k) (su) (k) (wt) (n + 1) (fun i => if i < n + 1 then some (hh i) else none) (n + 1) (fun i => if i < n + 1 then some (ff i) else none) (k) (ch) (8) (le) (n + 1) (fl)) ++ va_pl L (rowE cI rw)) := by
  refine sd_ofI (by decide) (Nat.le_of_ble_eq_true rfl) ?_
  intro p e s m below meth c A ls hx hb hr hml hlk hown hts hK hP hD hA hS hl
  have hl : lv_has ls 1 [(0, .ref qv)] := hl
  refine lv_aload_n hx hb d_V_sent_0 rfl (lv_at hl 0 rfl) ?_
  refine va_get (D := D) (ci := 4) (v := .ref qj) (C := R_V) (T := F_V) (N := 11) hx hb hts wl_V hown hK hP 0 rfl rfl 3 (by decide) (hts _ wf_V_19) (fun _ h9 => h9) rfl d_V_sent_1 ?_
  refine va_get (D := D) (ci := 2) (v := .ref qg) (C := R_J) (T := F_J) (N := 8) hx hb hts wl_J hown hK hP 3 rfl rfl 0 (by decide) (hts _ wf_V_204) (fun _ h9 => h9) rfl d_V_sent_4 ?_
  refine va_get (D := D) (ci := 1) (v := .int (nI (M.1))) (C := R_G) (T := F_G) (N := 2) hx hb hts wl_G hown hK hP 4 rfl rfl 1 (by decide) (hts _ wf_V_208) (fun _ h9 => h9) rfl d_V_sent_7 ?_
  exact sd_iret hx hb hr hlk hP hS (Nat.le_of_ble_eq_true rfl) (Nat.le_of_ble_eq_true rfl) (rfl) d_V_sent_10
end
section
theorem va_adr {X X' : va_W} {L : List Nat} {f f' : Nat → va_E} (h : X'.map (fun q => q.1) = X.map (fun q => q.1)) : (X' ++ va_pl L f').map (fun q => q.1) = (X ++ va_pl L f).map (fun q => q.1) := by
  rw [List.map_append, List.map_append, h]
  unfold va_pl
  rw [List.map_map, List.map_map]
  rfl
theorem bI_of {b : Nat} (h : b < 256) : nI b = bI (BitVec.ofNat 8 b) := by
  unfold bI
  rw [BitVec.toNat_ofNat, Nat.mod_eq_of_lt h]
/-- the ring's front behind t bytes -/
def pft : Nat → Nat → Nat
  | f, 0 => f
  | f, t + 1 => (pft f t + 1) % 1000
theorem pft_lt {f t : Nat} (h : f < 1000) : pft f t < 1000 := by
  cases t with
  | zero => exact h
  | succ t => exact Nat.mod_lt _ (by omega)
/-- the changes behind t bytes -/
def cg_f (pr : Nat → Int32) (pf : Nat) (ch : Nat → Int32) : Nat → Nat → Int32
  | 0 => ch
  | t + 1 => upd (cg_f pr pf ch t) (t + 1) (pr (pft pf t))
def cb_f (pb : Nat → BitVec 8) (pf : Nat) : Nat → BitVec 8 := fun i => if i = 0 then 0#8 else pb (pft pf (i - 1))
def cv_f (pb : Nat → BitVec 8) (pf k : Nat) (b : Nat) : BitVec 8 := gf_h (cb_f pb pf) (BitVec.ofNat 8 b) k 0#8
theorem cg_i (pr : Nat → Int32) (pf : Nat) (ch : Nat → Int32) (t : Nat) : ∀ i, cg_f pr pf ch t i = if 1 ≤ i ∧ i ≤ t then pr (pft pf (i - 1)) else ch i := by
  induction t with
  | zero => intro i; rw [if_neg (by omega)]; rfl
  | succ t ih =>
    intro i
    show upd (cg_f pr pf ch t) (t + 1) (pr (pft pf t)) i = _
    unfold upd
    by_cases h : i = t + 1
    · rw [if_pos h, if_pos (by omega), h]; rfl
    · rw [if_neg h, ih]
      by_cases h2 : 1 ≤ i ∧ i ≤ t
      · rw [if_pos h2, if_pos (by omega)]
      · rw [if_neg h2, if_neg (by omega)]
theorem cg_b {pr : Nat → Int32} {pf k : Nat} {ch : Nat → Int32} {pb : Nat → BitVec 8} (hpr : ∀ i, i < 1000 → pr i = bI (pb i)) (hpf : pf < 1000) (hch : ch 0 = 0) (hk1 : 1 ≤ k) : ∀ i, i < k → cg_f pr pf ch (k - 1) i = bI (cb_f pb pf i) := by
  intro i hi
  rw [cg_i]
  unfold cb_f
  by_cases h : i = 0
  · subst h
    rw [if_neg (by omega), if_pos rfl, hch, bI_0]
  · rw [if_pos (by omega), if_neg h, hpr _ (pft_lt hpf)]
/-- the shares of u boxes are changed and sent -/
def cn_f (ff : Nat → Nat) (lim : Int32) (j : Nat) (vb : Nat → BitVec 8) : Nat → (Nat → Nat → Int32) × ms_T → (Nat → Nat → Int32) × ms_T
  | 0, S => S
  | u + 1, S => (va_up (cn_f ff lim j vb u S).1 (ff (u + 1)) (upd ((cn_f ff lim j vb u S).1 (ff (u + 1))) j ((cn_f ff lim j vb u S).1 (ff (u + 1)) j ^^^ bI (vb (u + 1)))), ms_s lim (cn_f ff lim j vb u S).2 0 (nI (u + 1)) ((cn_f ff lim j vb u S).1 (ff (u + 1)) j ^^^ bI (vb (u + 1))))
theorem cn_b (ff : Nat → Nat) (lim : Int32) (j : Nat) (vb : Nat → BitVec 8) (u : Nat) (S : (Nat → Nat → Int32) × ms_T) : (cn_f ff lim j vb u S).2.1 ≤ S.2.1 + u := by
  induction u with
  | zero => exact Nat.le_refl _
  | succ u ih =>
    have := ms_b lim (cn_f ff lim j vb u S).2 0 (nI (u + 1)) ((cn_f ff lim j vb u S).1 (ff (u + 1)) j ^^^ bI (vb (u + 1)))
    show (ms_s lim (cn_f ff lim j vb u S).2 0 (nI (u + 1)) ((cn_f ff lim j vb u S).1 (ff (u + 1)) j ^^^ bI (vb (u + 1)))).1 ≤ _
    omega
/-- the first b bytes of file f, of box x, become valid -/
def as_f (hh ff : Nat → Nat) (x f : Nat) : Nat → (Nat → Nat → Int32) → Nat → Nat → Int32
  | 0, rw => rw
  | b + 1, rw => va_up (as_f hh ff x f b rw) (hh x) (upd (as_f hh ff x f b rw (hh x)) (f * 8 + b) (as_f hh ff x f b rw (ff x) (f * 8 + b)))
def af_f (hh ff : Nat → Nat) (f lf : Nat) : Nat → (Nat → Nat → Int32) → Nat → Nat → Int32
  | 0, rw => rw
  | u + 1, rw => as_f hh ff (u + 1) f lf (af_f hh ff f lf u rw)
theorem d_V_change_0 : decode b_V_change 0 = .ok (.iconst 1, 1) := by decide +kernel
theorem d_V_change_1 : decode b_V_change 1 = .ok (.istore_n 2, 1) := by decide +kernel
theorem d_V_change_2 : decode b_V_change 2 = .ok (.iload_n 2, 1) := by decide +kernel
theorem d_V_change_3 : decode b_V_change 3 = .ok (.aload_n 0, 1) := by decide +kernel
theorem d_V_change_4 : decode b_V_change 4 = .ok (.getfield 43, 3) := by decide +kernel
theorem d_V_change_7 : decode b_V_change 7 = .ok (.if_icmp .ge 22, 3) := by decide +kernel
theorem d_V_change_10 : decode b_V_change 10 = .ok (.aload_n 0, 1) := by decide +kernel
theorem d_V_change_11 : decode b_V_change 11 = .ok (.getfield 63, 3) := by decide +kernel
theorem d_V_change_14 : decode b_V_change 14 = .ok (.iload_n 2, 1) := by decide +kernel
theorem d_V_change_15 : decode b_V_change 15 = .ok (.aload_n 0, 1) := by decide +kernel
theorem d_V_change_16 : decode b_V_change 16 = .ok (.getfield 10, 3) := by decide +kernel
theorem d_V_change_19 : decode b_V_change 19 = .ok (.invokevirtual 223, 3) := by decide +kernel
theorem d_V_change_22 : decode b_V_change 22 = .ok (.iastore, 1) := by decide +kernel
theorem d_V_change_23 : decode b_V_change 23 = .ok (.iinc 2 1, 3) := by decide +kernel
theorem d_V_change_26 : decode b_V_change 26 = .ok (.goto (-24), 3) := by decide +kernel
theorem d_V_change_29 : decode b_V_change 29 = .ok (.iconst 1, 1) := by decide +kernel
theorem d_V_change_30 : decode b_V_change 30 = .ok (.istore_n 2, 1) := by decide +kernel
theorem d_V_change_31 : decode b_V_change 31 = .ok (.iload_n 2, 1) := by decide +kernel
theorem d_V_change_32 : decode b_V_change 32 = .ok (.aload_n 0, 1) := by decide +kernel
theorem d_V_change_33 : decode b_V_change 33 = .ok (.getfield 40, 3) := by decide +kernel
theorem d_V_change_36 : decode b_V_change 36 = .ok (.if_icmp .gt 46, 3) := by decide +kernel
theorem d_V_change_39 : decode b_V_change 39 = .ok (.aload_n 0, 1) := by decide +kernel
theorem d_V_change_40 : decode b_V_change 40 = .ok (.getfield 60, 3) := by decide +kernel
theorem d_V_change_43 : decode b_V_change 43 = .ok (.iload_n 2, 1) := by decide +kernel
theorem d_V_change_44 : decode b_V_change 44 = .ok (.aaload, 1) := by decide +kernel
theorem d_V_change_45 : decode b_V_change 45 = .ok (.iload_n 1, 1) := by decide +kernel
theorem d_V_change_46 : decode b_V_change 46 = .ok (.dup2, 1) := by decide +kernel
theorem d_V_change_47 : decode b_V_change 47 = .ok (.iaload, 1) := by decide +kernel
theorem d_V_change_48 : decode b_V_change 48 = .ok (.aload_n 0, 1) := by decide +kernel
theorem d_V_change_49 : decode b_V_change 49 = .ok (.getfield 63, 3) := by decide +kernel
theorem d_V_change_52 : decode b_V_change 52 = .ok (.iload_n 2, 1) := by decide +kernel
theorem d_V_change_53 : decode b_V_change 53 = .ok (.invokestatic 226, 3) := by decide +kernel
theorem d_V_change_56 : decode b_V_change 56 = .ok (.ixor, 1) := by decide +kernel
theorem d_V_change_57 : decode b_V_change 57 = .ok (.iastore, 1) := by decide +kernel
theorem d_V_change_58 : decode b_V_change 58 = .ok (.aload_n 0, 1) := by decide +kernel
theorem d_V_change_59 : decode b_V_change 59 = .ok (.getfield 19, 3) := by decide +kernel
theorem d_V_change_62 : decode b_V_change 62 = .ok (.iconst 0, 1) := by decide +kernel
theorem d_V_change_63 : decode b_V_change 63 = .ok (.iload_n 2, 1) := by decide +kernel
theorem d_V_change_64 : decode b_V_change 64 = .ok (.aload_n 0, 1) := by decide +kernel
theorem d_V_change_65 : decode b_V_change 65 = .ok (.getfield 60, 3) := by decide +kernel
theorem d_V_change_68 : decode b_V_change 68 = .ok (.iload_n 2, 1) := by decide +kernel
theorem d_V_change_69 : decode b_V_change 69 = .ok (.aaload, 1) := by decide +kernel
theorem d_V_change_70 : decode b_V_change 70 = .ok (.iload_n 1, 1) := by decide +kernel
theorem d_V_change_71 : decode b_V_change 71 = .ok (.iaload, 1) := by decide +kernel
theorem d_V_change_72 : decode b_V_change 72 = .ok (.invokevirtual 230, 3) := by decide +kernel
theorem d_V_change_75 : decode b_V_change 75 = .ok (.pop, 1) := by decide +kernel
theorem d_V_change_76 : decode b_V_change 76 = .ok (.iinc 2 1, 3) := by decide +kernel
theorem d_V_change_79 : decode b_V_change 79 = .ok (.goto (-48), 3) := by decide +kernel
theorem d_V_change_82 : decode b_V_change 82 = .ok (.return_, 1) := by decide +kernel
theorem d_V_adoptShares_0 : decode b_V_adoptShares 0 = .ok (.iconst 0, 1) := by decide +kernel
theorem d_V_adoptShares_1 : decode b_V_adoptShares 1 = .ok (.istore_n 3, 1) := by decide +kernel
theorem d_V_adoptShares_2 : decode b_V_adoptShares 2 = .ok (.iload_n 3, 1) := by decide +kernel
theorem d_V_adoptShares_3 : decode b_V_adoptShares 3 = .ok (.aload_n 0, 1) := by decide +kernel
theorem d_V_adoptShares_4 : decode b_V_adoptShares 4 = .ok (.getfield 23, 3) := by decide +kernel
theorem d_V_adoptShares_7 : decode b_V_adoptShares 7 = .ok (.iload_n 2, 1) := by decide +kernel
theorem d_V_adoptShares_8 : decode b_V_adoptShares 8 = .ok (.iaload, 1) := by decide +kernel
theorem d_V_adoptShares_9 : decode b_V_adoptShares 9 = .ok (.if_icmp .ge 33, 3) := by decide +kernel
theorem d_V_adoptShares_12 : decode b_V_adoptShares 12 = .ok (.aload_n 0, 1) := by decide +kernel
theorem d_V_adoptShares_13 : decode b_V_adoptShares 13 = .ok (.getfield 57, 3) := by decide +kernel
theorem d_V_adoptShares_16 : decode b_V_adoptShares 16 = .ok (.iload_n 1, 1) := by decide +kernel
theorem d_V_adoptShares_17 : decode b_V_adoptShares 17 = .ok (.aaload, 1) := by decide +kernel
theorem d_V_adoptShares_18 : decode b_V_adoptShares 18 = .ok (.iload_n 2, 1) := by decide +kernel
theorem d_V_adoptShares_19 : decode b_V_adoptShares 19 = .ok (.iload_n 3, 1) := by decide +kernel
theorem d_V_adoptShares_20 : decode b_V_adoptShares 20 = .ok (.invokestatic 118, 3) := by decide +kernel
theorem d_V_adoptShares_23 : decode b_V_adoptShares 23 = .ok (.aload_n 0, 1) := by decide +kernel
theorem d_V_adoptShares_24 : decode b_V_adoptShares 24 = .ok (.getfield 60, 3) := by decide +kernel
theorem d_V_adoptShares_27 : decode b_V_adoptShares 27 = .ok (.iload_n 1, 1) := by decide +kernel
theorem d_V_adoptShares_28 : decode b_V_adoptShares 28 = .ok (.aaload, 1) := by decide +kernel
theorem d_V_adoptShares_29 : decode b_V_adoptShares 29 = .ok (.iload_n 2, 1) := by decide +kernel
theorem d_V_adoptShares_30 : decode b_V_adoptShares 30 = .ok (.iload_n 3, 1) := by decide +kernel
theorem d_V_adoptShares_31 : decode b_V_adoptShares 31 = .ok (.invokestatic 118, 3) := by decide +kernel
theorem d_V_adoptShares_34 : decode b_V_adoptShares 34 = .ok (.iaload, 1) := by decide +kernel
theorem d_V_adoptShares_35 : decode b_V_adoptShares 35 = .ok (.iastore, 1) := by decide +kernel
theorem d_V_adoptShares_36 : decode b_V_adoptShares 36 = .ok (.iinc 3 1, 3) := by decide +kernel
theorem d_V_adoptShares_39 : decode b_V_adoptShares 39 = .ok (.goto (-37), 3) := by decide +kernel
theorem d_V_adoptShares_42 : decode b_V_adoptShares 42 = .ok (.return_, 1) := by decide +kernel
theorem d_V_adoptFile_0 : decode b_V_adoptFile 0 = .ok (.iconst 1, 1) := by decide +kernel
theorem d_V_adoptFile_1 : decode b_V_adoptFile 1 = .ok (.istore_n 2, 1) := by decide +kernel
theorem d_V_adoptFile_2 : decode b_V_adoptFile 2 = .ok (.iload_n 2, 1) := by decide +kernel
theorem d_V_adoptFile_3 : decode b_V_adoptFile 3 = .ok (.aload_n 0, 1) := by decide +kernel
theorem d_V_adoptFile_4 : decode b_V_adoptFile 4 = .ok (.getfield 40, 3) := by decide +kernel
theorem d_V_adoptFile_7 : decode b_V_adoptFile 7 = .ok (.if_icmp .gt 15, 3) := by decide +kernel
theorem d_V_adoptFile_10 : decode b_V_adoptFile 10 = .ok (.aload_n 0, 1) := by decide +kernel
theorem d_V_adoptFile_11 : decode b_V_adoptFile 11 = .ok (.iload_n 2, 1) := by decide +kernel
theorem d_V_adoptFile_12 : decode b_V_adoptFile 12 = .ok (.iload_n 1, 1) := by decide +kernel
theorem d_V_adoptFile_13 : decode b_V_adoptFile 13 = .ok (.invokevirtual 169, 3) := by decide +kernel
theorem d_V_adoptFile_16 : decode b_V_adoptFile 16 = .ok (.iinc 2 1, 3) := by decide +kernel
theorem d_V_adoptFile_19 : decode b_V_adoptFile 19 = .ok (.goto (-17), 3) := by decide +kernel
theorem d_V_adoptFile_22 : decode b_V_adoptFile 22 = .ok (.return_, 1) := by decide +kernel
set_option maxHeartbeats 4000000 in
set_option maxRecDepth 100000 in
theorem c_V_change (l : Launch) (D : va_G) (cI cZ cQ : ClassId) (qv : Nat) (qp : Nat) (qr : Nat) (qj : Nat) (qg : Nat) (qs : Nat) (qh : Nat) (qn : Nat) (qu : Nat) (qw : Nat) (qH : Nat) (qF : Nat) (qc : Nat) (ql : Nat) (qf : Nat) (k : Nat) (n : Nat) (pf : Nat) (pn : Nat) (pr : Nat → Int32) (wi : Int32) (M : ms_T) (hf : Int32) (lim : Int32) (nt : Int32) (lt : Int32) (nb : Nat → Int32) (su : Nat → Int32) (wt : Nat → Int32) (ch : Nat → Int32) (le : Nat → Int32) (fl : Nat → Int32) (ep : Int32) (L : List Nat) (hh : Nat → Nat) (ff : Nat → Nat) (rw : Nat → Nat → Int32) (j : Nat) (pb : Nat → BitVec 8) (hk : k < 2 ^ 20) (hn : n < 2 ^ 20) (hhL : ∀ i, i < n + 1 → hh i ∈ L) (ffL : ∀ i, i < n + 1 → ff i ∈ L) (hj : j < 64) (hk1 : 1 ≤ k) (hn2 : n < 255) (hpf : pf < 1000) (hpn : k - 1 ≤ pn) (hpr : ∀ i, i < 1000 → pr i = bI (pb i)) (hch : ch 0 = 0) (hT : M.1 + n < 2 ^ 31) : sd_V l D (tyL cI cZ cQ) y_V_change b_V_change 3 ({ frames := 2, cells := 0, slots := 0, locals := 47 }) [.ref qv, .int (nI j)] ((vW cI cQ cZ qv qp qr qj qg qs qh qn qu qw qH qF qc ql qf (nI (k)) (nI (n)) (ep) (nI (pf)) (nI (pn)) (1000) (pr) (wi) (M.2.2.2) (hf) (nI M.2.2.1) (lim) (nt) (lt) (nI (M.1)) (192) (M.2.1) (k) (nb) (k) (su) (k) (wt) (n + 1) (fun i => if i < n + 1 then some (hh i) else none) (n + 1) (fun i => if i < n + 1 then some (ff i) else none) (k) (ch) (8) (le) (n + 1) (fl)) ++ va_pl L (rowE cI rw)) ((vW cI cQ cZ qv qp qr qj qg qs qh qn qu qw qH qF qc ql qf (nI (k)) (nI (n)) (ep) (nI (pft pf (k - 1))) (nI (pn - (k - 1))) (1000) (pr) (wi) ((cn_f ff lim j (cv_f pb pf k) n (rw, M)).2.2.2.2) (hf) (nI (cn_f ff lim j (cv_f pb pf k) n (rw, M)).2.2.2.1) (lim) (nt) (lt) (nI ((cn_f ff lim j (cv_f pb pf k) n (rw, M)).2.1)) (192) ((cn_f ff lim j (cv_f pb pf k) n (rw, M)).2.2.1) (k) (nb) (k) (su) (k) (wt) (n + 1) (fun i => if i < n + 1 then some (hh i) else none) (n + 1) (fun i => if i < n + 1 then some (ff i) else none) (k) (cg_f pr pf ch (k - 1)) (8) (le) (n + 1) (fl)) ++ va_pl L (rowE cI (cn_f ff lim j (cv_f pb pf k) n (rw, M)).1)) := by
  refine sd_ofV (by decide) (Nat.le_of_ble_eq_true rfl) ?_
  intro p e s m below meth c A ls hx hb hr hml hlk hown hts hK hP hD hA hS hl
  have hl : lv_has ls 3 [(0, .ref qv), (1, .int (nI j))] := hl
  refine lv_iconst (v := 1) hx hb d_V_change_0 (by decide) ?_
  refine sd_top (y := nI (0 + 1)) (rfl) ?_
  refine lv_istore_n hx hb d_V_change_1 rfl hl (Nat.le_of_ble_eq_true rfl) (lv' := [(2, .int (nI (0 + 1))), (0, .ref qv), (1, .int (nI j))]) rfl (fun ls hl => ?_)
  have hl := lv_sub hl (l' := [(0, .ref qv), (1, .int (nI j)), (2, .int (nI (0 + 1)))]) [1, 2, 0] rfl
  have loop2 : ∀ (d : Nat) (t : Nat) (ls : Array Slot) (H : Heap) (locs : List Loc), k - t = d → (t + 1 ≤ k) → lv_has ls 3 [(0, .ref qv), (1, .int (nI j)), (2, .int (nI (t + 1)))] → va_P D cls ((vW cI cQ cZ qv qp qr qj qg qs qh qn qu qw qH qF qc ql qf (nI (k)) (nI (n)) (ep) (nI (pft pf t)) (nI (pn - t)) (1000) (pr) (wi) (M.2.2.2) (hf) (nI M.2.2.1) (lim) (nt) (lt) (nI (M.1)) (192) (M.2.1) (k) (nb) (k) (su) (k) (wt) (n + 1) (fun i => if i < n + 1 then some (hh i) else none) (n + 1) (fun i => if i < n + 1 then some (ff i) else none) (k) (cg_f pr pf ch t) (8) (le) (n + 1) (fl)) ++ va_pl L (rowE cI rw)) H → va_D A ((vW cI cQ cZ qv qp qr qj qg qs qh qn qu qw qH qF qc ql qf (nI (k)) (nI (n)) (ep) (nI (pft pf t)) (nI (pn - t)) (1000) (pr) (wi) (M.2.2.2) (hf) (nI M.2.2.1) (lim) (nt) (lt) (nI (M.1)) (192) (M.2.1) (k) (nb) (k) (su) (k) (wt) (n + 1) (fun i => if i < n + 1 then some (hh i) else none) (n + 1) (fun i => if i < n + 1 then some (ff i) else none) (k) (cg_f pr pf ch t) (8) (le) (n + 1) (fl)) ++ va_pl L (rowE cI rw)) → va_S A s.heap H locs → W p l e ({ frames := 2, cells := 0, slots := 0, locals := 47 }) s m ([.ref qv, .int (nI j)] : List Value).toArray below meth c H locs 0 0 (MQ below (sd_qv D ((vW cI cQ cZ qv qp qr qj qg qs qh qn qu qw qH qF qc ql qf (nI (k)) (nI (n)) (ep) (nI (pft pf (k - 1))) (nI (pn - (k - 1))) (1000) (pr) (wi) ((cn_f ff lim j (cv_f pb pf k) n (rw, M)).2.2.2.2) (hf) (nI (cn_f ff lim j (cv_f pb pf k) n (rw, M)).2.2.2.1) (lim) (nt) (lt) (nI ((cn_f ff lim j (cv_f pb pf k) n (rw, M)).2.1)) (192) ((cn_f ff lim j (cv_f pb pf k) n (rw, M)).2.2.1) (k) (nb) (k) (su) (k) (wt) (n + 1) (fun i => if i < n + 1 then some (hh i) else none) (n + 1) (fun i => if i < n + 1 then some (ff i) else none) (k) (cg_f pr pf ch (k - 1)) (8) (le) (n + 1) (fl)) ++ va_pl L (rowE cI (cn_f ff lim j (cv_f pb pf k) n (rw, M)).1)) A) ([.ref qv, .int (nI j)] : List Value).toArray s 0 0 A) (F0 m 2 ls []) := by
    intro d
    induction d using Nat.strongRecOn with
    | _ d ih2 =>
    intro t ls H locs hd ht hl hP hD hS
    subst hd
    refine lv_iload_n hx hb d_V_change_2 rfl (lv_at hl 2 rfl) ?_
    refine lv_aload_n hx hb d_V_change_3 rfl (lv_at hl 0 rfl) ?_
    refine va_get (D := D) (ci := 4) (v := .int (nI (k))) (C := R_V) (T := F_V) (N := 11) hx hb hts wl_V hown hK hP 0 rfl rfl 0 (by decide) (hts _ wf_V_43) (fun _ h9 => h9) rfl d_V_change_4 ?_
    refine lv_icmp_ge (tgt := 29) hx hb d_V_change_7 rfl (fun hc7 => ?_) (fun hc7 => ?_)
    · skip
      rw [nI_leI (by omega) (by omega)] at hc7
      have ht2 : k - 1 = t := by omega
      subst ht2
      refine lv_iconst (v := 1) hx hb d_V_change_29 (by decide) ?_
      refine sd_top (y := nI (0 + 1)) (rfl) ?_
      refine lv_istore_n hx hb d_V_change_30 rfl hl (Nat.le_of_ble_eq_true rfl) (lv' := [(2, .int (nI (0 + 1))), (0, .ref qv), (1, .int (nI j))]) rfl (fun ls hl => ?_)
      have hl := lv_sub hl (l' := [(0, .ref qv), (1, .int (nI j)), (2, .int (nI (0 + 1)))]) [1, 2, 0] rfl
      have loop31 : ∀ (d : Nat) (u : Nat) (ls : Array Slot) (H : Heap) (locs : List Loc), n - u = d → (u ≤ n) → lv_has ls 3 [(0, .ref qv), (1, .int (nI j)), (2, .int (nI (u + 1)))] → va_P D cls ((vW cI cQ cZ qv qp qr qj qg qs qh qn qu qw qH qF qc ql qf (nI (k)) (nI (n)) (ep) (nI (pft pf (k - 1))) (nI (pn - (k - 1))) (1000) (pr) (wi) ((cn_f ff lim j (cv_f pb pf k) u (rw, M)).2.2.2.2) (hf) (nI (cn_f ff lim j (cv_f pb pf k) u (rw, M)).2.2.2.1) (lim) (nt) (lt) (nI ((cn_f ff lim j (cv_f pb pf k) u (rw, M)).2.1)) (192) ((cn_f ff lim j (cv_f pb pf k) u (rw, M)).2.2.1) (k) (nb) (k) (su) (k) (wt) (n + 1) (fun i => if i < n + 1 then some (hh i) else none) (n + 1) (fun i => if i < n + 1 then some (ff i) else none) (k) (cg_f pr pf ch (k - 1)) (8) (le) (n + 1) (fl)) ++ va_pl L (rowE cI (cn_f ff lim j (cv_f pb pf k) u (rw, M)).1)) H → va_D A ((vW cI cQ cZ qv qp qr qj qg qs qh qn qu qw qH qF qc ql qf (nI (k)) (nI (n)) (ep) (nI (pft pf (k - 1))) (nI (pn - (k - 1))) (1000) (pr) (wi) ((cn_f ff lim j (cv_f pb pf k) u (rw, M)).2.2.2.2) (hf) (nI (cn_f ff lim j (cv_f pb pf k) u (rw, M)).2.2.2.1) (lim) (nt) (lt) (nI ((cn_f ff lim j (cv_f pb pf k) u (rw, M)).2.1)) (192) ((cn_f ff lim j (cv_f pb pf k) u (rw, M)).2.2.1) (k) (nb) (k) (su) (k) (wt) (n + 1) (fun i => if i < n + 1 then some (hh i) else none) (n + 1) (fun i => if i < n + 1 then some (ff i) else none) (k) (cg_f pr pf ch (k - 1)) (8) (le) (n + 1) (fl)) ++ va_pl L (rowE cI (cn_f ff lim j (cv_f pb pf k) u (rw, M)).1)) → va_S A s.heap H locs → W p l e ({ frames := 2, cells := 0, slots := 0, locals := 47 }) s m ([.ref qv, .int (nI j)] : List Value).toArray below meth c H locs 0 0 (MQ below (sd_qv D ((vW cI cQ cZ qv qp qr qj qg qs qh qn qu qw qH qF qc ql qf (nI (k)) (nI (n)) (ep) (nI (pft pf (k - 1))) (nI (pn - (k - 1))) (1000) (pr) (wi) ((cn_f ff lim j (cv_f pb pf k) n (rw, M)).2.2.2.2) (hf) (nI (cn_f ff lim j (cv_f pb pf k) n (rw, M)).2.2.2.1) (lim) (nt) (lt) (nI ((cn_f ff lim j (cv_f pb pf k) n (rw, M)).2.1)) (192) ((cn_f ff lim j (cv_f pb pf k) n (rw, M)).2.2.1) (k) (nb) (k) (su) (k) (wt) (n + 1) (fun i => if i < n + 1 then some (hh i) else none) (n + 1) (fun i => if i < n + 1 then some (ff i) else none) (k) (cg_f pr pf ch (k - 1)) (8) (le) (n + 1) (fl)) ++ va_pl L (rowE cI (cn_f ff lim j (cv_f pb pf k) n (rw, M)).1)) A) ([.ref qv, .int (nI j)] : List Value).toArray s 0 0 A) (F0 m 31 ls []) := by
        intro d
        induction d using Nat.strongRecOn with
        | _ d ih31 =>
        intro u ls H locs hd hu hl hP hD hS
        subst hd
        refine lv_iload_n hx hb d_V_change_31 rfl (lv_at hl 2 rfl) ?_
        refine lv_aload_n hx hb d_V_change_32 rfl (lv_at hl 0 rfl) ?_
        refine va_get (D := D) (ci := 4) (v := .int (nI (n))) (C := R_V) (T := F_V) (N := 11) hx hb hts wl_V hown hK hP 0 rfl rfl 1 (by decide) (hts _ wf_V_40) (fun _ h9 => h9) rfl d_V_change_33 ?_
        refine lv_icmp_gt (tgt := 82) hx hb d_V_change_36 rfl (fun hc36 => ?_) (fun hc36 => ?_)
        · skip
          rw [nI_ltI (by omega) (by omega)] at hc36
          have hun : n = u := by omega
          subst hun
          exact sd_vret hx hb hr hlk hP hS (Nat.le_of_ble_eq_true rfl) (Nat.le_of_ble_eq_true rfl) d_V_change_82
        · skip
          rw [nI_ltI (by omega) (by omega)] at hc36
          have hTu : (cn_f ff lim j (cv_f pb pf k) u (rw, M)).2.1 < 2 ^ 31 := by
            have := cn_b ff lim j (cv_f pb pf k) u (rw, M)
            have h9 : ((rw, M) : (Nat → Nat → Int32) × ms_T).2.1 = M.1 := rfl
            omega
          refine lv_aload_n hx hb d_V_change_39 rfl (lv_at hl 0 rfl) ?_
          refine va_get (D := D) (ci := 4) (v := .ref qF) (C := R_V) (T := F_V) (N := 11) hx hb hts wl_V hown hK hP 0 rfl rfl 6 (by decide) (hts _ wf_V_60) (fun _ h9 => h9) rfl d_V_change_40 ?_
          refine lv_iload_n hx hb d_V_change_43 rfl (lv_at hl 2 rfl) ?_
          refine sd_aald (j := u + 1) (z := ff (u + 1)) hx hb hK hP 11 2 rfl rfl (by omega) (by omega) (if_pos (by omega)) d_V_change_44 ?_
          refine lv_iload_n hx hb d_V_change_45 rfl (lv_at hl 1 rfl) ?_
          refine lv_dup2_11 hx hb d_V_change_46 rfl rfl ?_
          refine sd_rld (z := ff (u + 1)) (j := j) hx hb hK hP (ffL (u + 1) (by omega)) 0 rfl (by omega) d_V_change_47 ?_
          refine lv_aload_n hx hb d_V_change_48 rfl (lv_at hl 0 rfl) ?_
          refine va_get (D := D) (ci := 4) (v := .ref qc) (C := R_V) (T := F_V) (N := 11) hx hb hts wl_V hown hK hP 0 rfl rfl 7 (by decide) (hts _ wf_V_63) (fun _ h9 => h9) rfl d_V_change_49 ?_
          refine lv_iload_n hx hb d_V_change_52 rfl (lv_at hl 2 rfl) ?_
          refine sd_top (y := bI (BitVec.ofNat 8 (u + 1))) (bI_of (by omega)) ?_
          refine sd_callSI (As := [.ref qc, .int (bI (BitVec.ofNat 8 (u + 1)))]) (rest := [.int ((cn_f ff lim j (cv_f pb pf k) u (rw, M)).1 (ff (u + 1)) (j)), .int (nI j), .ref (ff (u + 1))]) (cx := [(qc, .inl (cI, k, .inl (cg_f pr pf ch (k - 1))))]) (w1 := [(qc, .inl (cI, k, .inl (cg_f pr pf ch (k - 1))))]) (c_B_valueAt l D cI cZ cQ (qc) (k) (cg_f pr pf ch (k - 1)) (cb_f pb pf) (BitVec.ofNat 8 (u + 1)) (by omega) (cg_b hpr hpf hch hk1)) ⟨wc_B_valueAt, wm_V_226, wi_B, by decide, by decide, show (parseMethodDescriptor y_B_valueAt.desc).map (fun d => d.parameters.length) = some 2 by decide +kernel⟩ ws_B_valueAt hx hb hml hown hts hl.1 ⟨Nat.le_of_ble_eq_true rfl, Nat.le_of_ble_eq_true rfl⟩ ⟨Nat.le_of_ble_eq_true rfl, Nat.le_of_ble_eq_true rfl⟩ hK hP hD hS hA [12] rfl (by decide) rfl rfl rfl (Nat.le_of_ble_eq_true rfl) d_V_change_53 (fun H locs hP hD hS => ?_)
          have hP : va_P D cls ((vW cI cQ cZ qv qp qr qj qg qs qh qn qu qw qH qF qc ql qf (nI (k)) (nI (n)) (ep) (nI (pft pf (k - 1))) (nI (pn - (k - 1))) (1000) (pr) (wi) ((cn_f ff lim j (cv_f pb pf k) u (rw, M)).2.2.2.2) (hf) (nI (cn_f ff lim j (cv_f pb pf k) u (rw, M)).2.2.2.1) (lim) (nt) (lt) (nI ((cn_f ff lim j (cv_f pb pf k) u (rw, M)).2.1)) (192) ((cn_f ff lim j (cv_f pb pf k) u (rw, M)).2.2.1) (k) (nb) (k) (su) (k) (wt) (n + 1) (fun i => if i < n + 1 then some (hh i) else none) (n + 1) (fun i => if i < n + 1 then some (ff i) else none) (k) (cg_f pr pf ch (k - 1)) (8) (le) (n + 1) (fl)) ++ va_pl L (rowE cI (cn_f ff lim j (cv_f pb pf k) u (rw, M)).1)) H := hP
          have hD : va_D A ((vW cI cQ cZ qv qp qr qj qg qs qh qn qu qw qH qF qc ql qf (nI (k)) (nI (n)) (ep) (nI (pft pf (k - 1))) (nI (pn - (k - 1))) (1000) (pr) (wi) ((cn_f ff lim j (cv_f pb pf k) u (rw, M)).2.2.2.2) (hf) (nI (cn_f ff lim j (cv_f pb pf k) u (rw, M)).2.2.2.1) (lim) (nt) (lt) (nI ((cn_f ff lim j (cv_f pb pf k) u (rw, M)).2.1)) (192) ((cn_f ff lim j (cv_f pb pf k) u (rw, M)).2.2.1) (k) (nb) (k) (su) (k) (wt) (n + 1) (fun i => if i < n + 1 then some (hh i) else none) (n + 1) (fun i => if i < n + 1 then some (ff i) else none) (k) (cg_f pr pf ch (k - 1)) (8) (le) (n + 1) (fl)) ++ va_pl L (rowE cI (cn_f ff lim j (cv_f pb pf k) u (rw, M)).1)) := hD
          refine lv_ixor hx hb d_V_change_56 ?_
          refine sd_rst (z := ff (u + 1)) (j := j) hx hb hK hP hD hS (ffL (u + 1) (by omega)) 0 rfl (by omega) d_V_change_57 (fun H locs hP hD hS => ?_)
          have hP : va_P D cls ((vW cI cQ cZ qv qp qr qj qg qs qh qn qu qw qH qF qc ql qf (nI (k)) (nI (n)) (ep) (nI (pft pf (k - 1))) (nI (pn - (k - 1))) (1000) (pr) (wi) ((cn_f ff lim j (cv_f pb pf k) u (rw, M)).2.2.2.2) (hf) (nI (cn_f ff lim j (cv_f pb pf k) u (rw, M)).2.2.2.1) (lim) (nt) (lt) (nI ((cn_f ff lim j (cv_f pb pf k) u (rw, M)).2.1)) (192) ((cn_f ff lim j (cv_f pb pf k) u (rw, M)).2.2.1) (k) (nb) (k) (su) (k) (wt) (n + 1) (fun i => if i < n + 1 then some (hh i) else none) (n + 1) (fun i => if i < n + 1 then some (ff i) else none) (k) (cg_f pr pf ch (k - 1)) (8) (le) (n + 1) (fl)) ++ va_pl L (rowE cI (va_up (cn_f ff lim j (cv_f pb pf k) u (rw, M)).1 (ff (u + 1)) (upd ((cn_f ff lim j (cv_f pb pf k) u (rw, M)).1 (ff (u + 1))) (j) (((cn_f ff lim j (cv_f pb pf k) u (rw, M)).1 (ff (u + 1)) (j)) ^^^ (bI (gf_h (cb_f pb pf) (BitVec.ofNat 8 (u + 1)) k 0#8))))))) H := hP
          have hD : va_D A ((vW cI cQ cZ qv qp qr qj qg qs qh qn qu qw qH qF qc ql qf (nI (k)) (nI (n)) (ep) (nI (pft pf (k - 1))) (nI (pn - (k - 1))) (1000) (pr) (wi) ((cn_f ff lim j (cv_f pb pf k) u (rw, M)).2.2.2.2) (hf) (nI (cn_f ff lim j (cv_f pb pf k) u (rw, M)).2.2.2.1) (lim) (nt) (lt) (nI ((cn_f ff lim j (cv_f pb pf k) u (rw, M)).2.1)) (192) ((cn_f ff lim j (cv_f pb pf k) u (rw, M)).2.2.1) (k) (nb) (k) (su) (k) (wt) (n + 1) (fun i => if i < n + 1 then some (hh i) else none) (n + 1) (fun i => if i < n + 1 then some (ff i) else none) (k) (cg_f pr pf ch (k - 1)) (8) (le) (n + 1) (fl)) ++ va_pl L (rowE cI (va_up (cn_f ff lim j (cv_f pb pf k) u (rw, M)).1 (ff (u + 1)) (upd ((cn_f ff lim j (cv_f pb pf k) u (rw, M)).1 (ff (u + 1))) (j) (((cn_f ff lim j (cv_f pb pf k) u (rw, M)).1 (ff (u + 1)) (j)) ^^^ (bI (gf_h (cb_f pb pf) (BitVec.ofNat 8 (u + 1)) k 0#8))))))) := hD
          refine lv_aload_n hx hb d_V_change_58 rfl (lv_at hl 0 rfl) ?_
          refine va_get (D := D) (ci := 4) (v := .ref qj) (C := R_V) (T := F_V) (N := 11) hx hb hts wl_V hown hK hP 0 rfl rfl 3 (by decide) (hts _ wf_V_19) (fun _ h9 => h9) rfl d_V_change_59 ?_
          refine lv_iconst (v := 0) hx hb d_V_change_62 (by decide) ?_
          refine lv_iload_n hx hb d_V_change_63 rfl (lv_at hl 2 rfl) ?_
          refine lv_aload_n hx hb d_V_change_64 rfl (lv_at hl 0 rfl) ?_
          refine va_get (D := D) (ci := 4) (v := .ref qF) (C := R_V) (T := F_V) (N := 11) hx hb hts wl_V hown hK hP 0 rfl rfl 6 (by decide) (hts _ wf_V_60) (fun _ h9 => h9) rfl d_V_change_65 ?_
          refine lv_iload_n hx hb d_V_change_68 rfl (lv_at hl 2 rfl) ?_
          refine sd_aald (j := u + 1) (z := ff (u + 1)) hx hb hK hP 11 2 rfl rfl (by omega) (by omega) (if_pos (by omega)) d_V_change_69 ?_
          refine lv_iload_n hx hb d_V_change_70 rfl (lv_at hl 1 rfl) ?_
          refine sd_rld (z := ff (u + 1)) (j := j) hx hb hK hP (ffL (u + 1) (by omega)) 0 rfl (by omega) d_V_change_71 ?_
          refine sd_top (y := (cn_f ff lim j (cv_f pb pf k) u (rw, M)).1 (ff (u + 1)) (j) ^^^ bI (gf_h (cb_f pb pf) (BitVec.ofNat 8 (u + 1)) k 0#8)) (by rw [va_up_self, pk_us]) ?_
          refine sd_callVI (As := [.int (0), .int (nI (u + 1)), .int ((cn_f ff lim j (cv_f pb pf k) u (rw, M)).1 (ff (u + 1)) (j) ^^^ bI (gf_h (cb_f pb pf) (BitVec.ofNat 8 (u + 1)) k 0#8))]) (rest := []) (cx := [(qj, .inr (2, [.ref qg, .int (wi), .int (((cn_f ff lim j (cv_f pb pf k) u (rw, M)).2).2.2.2), .int (hf), .int (nI ((cn_f ff lim j (cv_f pb pf k) u (rw, M)).2).2.2.1), .int (lim), .int (nt), .int (lt)])), (qg, .inr (1, [.ref qs, .int (nI (((cn_f ff lim j (cv_f pb pf k) u (rw, M)).2).1))])), (qs, .inl (cI, 192, .inl (((cn_f ff lim j (cv_f pb pf k) u (rw, M)).2).2.1)))]) (w1 := [(qj, .inr (2, [.ref qg, .int (wi), .int ((ms_s lim ((cn_f ff lim j (cv_f pb pf k) u (rw, M)).2) 0 (nI (u + 1)) ((cn_f ff lim j (cv_f pb pf k) u (rw, M)).1 (ff (u + 1)) (j) ^^^ bI (gf_h (cb_f pb pf) (BitVec.ofNat 8 (u + 1)) k 0#8))).2.2.2), .int (hf), .int (nI (ms_s lim ((cn_f ff lim j (cv_f pb pf k) u (rw, M)).2) 0 (nI (u + 1)) ((cn_f ff lim j (cv_f pb pf k) u (rw, M)).1 (ff (u + 1)) (j) ^^^ bI (gf_h (cb_f pb pf) (BitVec.ofNat 8 (u + 1)) k 0#8))).2.2.1), .int (lim), .int (nt), .int (lt)])), (qg, .inr (1, [.ref qs, .int (nI ((ms_s lim ((cn_f ff lim j (cv_f pb pf k) u (rw, M)).2) 0 (nI (u + 1)) ((cn_f ff lim j (cv_f pb pf k) u (rw, M)).1 (ff (u + 1)) (j) ^^^ bI (gf_h (cb_f pb pf) (BitVec.ofNat 8 (u + 1)) k 0#8))).1))])), (qs, .inl (cI, 192, .inl ((ms_s lim ((cn_f ff lim j (cv_f pb pf k) u (rw, M)).2) 0 (nI (u + 1)) ((cn_f ff lim j (cv_f pb pf k) u (rw, M)).1 (ff (u + 1)) (j) ^^^ bI (gf_h (cb_f pb pf) (BitVec.ofNat 8 (u + 1)) k 0#8))).2.1)))]) (c_J_send l D cI cZ cQ (qj) (qg) (qs) (wi) ((cn_f ff lim j (cv_f pb pf k) u (rw, M)).2) (hf) (lim) (nt) (lt) (0) (nI (u + 1)) ((cn_f ff lim j (cv_f pb pf k) u (rw, M)).1 (ff (u + 1)) (j) ^^^ bI (gf_h (cb_f pb pf) (BitVec.ofNat 8 (u + 1)) k 0#8)) (hTu)) ⟨wc_J_send, wm_V_230, wi_J, by decide, by decide, show (parseMethodDescriptor y_J_send.desc).map (fun d => d.parameters.length) = some 3 by decide +kernel⟩ wo_J_send wz_J_send hx hb hml hown hts hl.1 ⟨Nat.le_of_ble_eq_true rfl, Nat.le_of_ble_eq_true rfl⟩ ⟨Nat.le_of_ble_eq_true rfl, Nat.le_of_ble_eq_true rfl⟩ hK hP hD hS hA [3, 4, 5] rfl (by decide) rfl rfl (q0 := 0) rfl rfl rfl (Nat.le_of_ble_eq_true rfl) d_V_change_72 (fun H locs hP hD hS => ?_)
          have hP : va_P D cls ((vW cI cQ cZ qv qp qr qj qg qs qh qn qu qw qH qF qc ql qf (nI (k)) (nI (n)) (ep) (nI (pft pf (k - 1))) (nI (pn - (k - 1))) (1000) (pr) (wi) ((ms_s lim ((cn_f ff lim j (cv_f pb pf k) u (rw, M)).2) 0 (nI (u + 1)) ((cn_f ff lim j (cv_f pb pf k) u (rw, M)).1 (ff (u + 1)) (j) ^^^ bI (gf_h (cb_f pb pf) (BitVec.ofNat 8 (u + 1)) k 0#8))).2.2.2) (hf) (nI (ms_s lim ((cn_f ff lim j (cv_f pb pf k) u (rw, M)).2) 0 (nI (u + 1)) ((cn_f ff lim j (cv_f pb pf k) u (rw, M)).1 (ff (u + 1)) (j) ^^^ bI (gf_h (cb_f pb pf) (BitVec.ofNat 8 (u + 1)) k 0#8))).2.2.1) (lim) (nt) (lt) (nI ((ms_s lim ((cn_f ff lim j (cv_f pb pf k) u (rw, M)).2) 0 (nI (u + 1)) ((cn_f ff lim j (cv_f pb pf k) u (rw, M)).1 (ff (u + 1)) (j) ^^^ bI (gf_h (cb_f pb pf) (BitVec.ofNat 8 (u + 1)) k 0#8))).1)) (192) ((ms_s lim ((cn_f ff lim j (cv_f pb pf k) u (rw, M)).2) 0 (nI (u + 1)) ((cn_f ff lim j (cv_f pb pf k) u (rw, M)).1 (ff (u + 1)) (j) ^^^ bI (gf_h (cb_f pb pf) (BitVec.ofNat 8 (u + 1)) k 0#8))).2.1) (k) (nb) (k) (su) (k) (wt) (n + 1) (fun i => if i < n + 1 then some (hh i) else none) (n + 1) (fun i => if i < n + 1 then some (ff i) else none) (k) (cg_f pr pf ch (k - 1)) (8) (le) (n + 1) (fl)) ++ va_pl L (rowE cI (va_up (cn_f ff lim j (cv_f pb pf k) u (rw, M)).1 (ff (u + 1)) (upd ((cn_f ff lim j (cv_f pb pf k) u (rw, M)).1 (ff (u + 1))) (j) (((cn_f ff lim j (cv_f pb pf k) u (rw, M)).1 (ff (u + 1)) (j)) ^^^ (bI (gf_h (cb_f pb pf) (BitVec.ofNat 8 (u + 1)) k 0#8))))))) H := hP
          have hD : va_D A ((vW cI cQ cZ qv qp qr qj qg qs qh qn qu qw qH qF qc ql qf (nI (k)) (nI (n)) (ep) (nI (pft pf (k - 1))) (nI (pn - (k - 1))) (1000) (pr) (wi) ((ms_s lim ((cn_f ff lim j (cv_f pb pf k) u (rw, M)).2) 0 (nI (u + 1)) ((cn_f ff lim j (cv_f pb pf k) u (rw, M)).1 (ff (u + 1)) (j) ^^^ bI (gf_h (cb_f pb pf) (BitVec.ofNat 8 (u + 1)) k 0#8))).2.2.2) (hf) (nI (ms_s lim ((cn_f ff lim j (cv_f pb pf k) u (rw, M)).2) 0 (nI (u + 1)) ((cn_f ff lim j (cv_f pb pf k) u (rw, M)).1 (ff (u + 1)) (j) ^^^ bI (gf_h (cb_f pb pf) (BitVec.ofNat 8 (u + 1)) k 0#8))).2.2.1) (lim) (nt) (lt) (nI ((ms_s lim ((cn_f ff lim j (cv_f pb pf k) u (rw, M)).2) 0 (nI (u + 1)) ((cn_f ff lim j (cv_f pb pf k) u (rw, M)).1 (ff (u + 1)) (j) ^^^ bI (gf_h (cb_f pb pf) (BitVec.ofNat 8 (u + 1)) k 0#8))).1)) (192) ((ms_s lim ((cn_f ff lim j (cv_f pb pf k) u (rw, M)).2) 0 (nI (u + 1)) ((cn_f ff lim j (cv_f pb pf k) u (rw, M)).1 (ff (u + 1)) (j) ^^^ bI (gf_h (cb_f pb pf) (BitVec.ofNat 8 (u + 1)) k 0#8))).2.1) (k) (nb) (k) (su) (k) (wt) (n + 1) (fun i => if i < n + 1 then some (hh i) else none) (n + 1) (fun i => if i < n + 1 then some (ff i) else none) (k) (cg_f pr pf ch (k - 1)) (8) (le) (n + 1) (fl)) ++ va_pl L (rowE cI (va_up (cn_f ff lim j (cv_f pb pf k) u (rw, M)).1 (ff (u + 1)) (upd ((cn_f ff lim j (cv_f pb pf k) u (rw, M)).1 (ff (u + 1))) (j) (((cn_f ff lim j (cv_f pb pf k) u (rw, M)).1 (ff (u + 1)) (j)) ^^^ (bI (gf_h (cb_f pb pf) (BitVec.ofNat 8 (u + 1)) k 0#8))))))) := hD
          refine lv_pop hx hb d_V_change_75 rfl ?_
          refine lv_iinc hx hb d_V_change_76 hl (k := 2) rfl (v := nI (u + 1 + 1)) (ii_1 _) (Nat.le_of_ble_eq_true rfl) (lv' := [(2, .int (nI (u + 1 + 1))), (0, .ref qv), (1, .int (nI j))]) rfl (fun ls hl => ?_)
          refine lv_goto (tgt := 31) hx hb d_V_change_79 rfl ?_
          have hl := lv_sub hl (l' := [(0, .ref qv), (1, .int (nI j)), (2, .int (nI (u + 1 + 1)))]) [1, 2, 0] rfl
          exact ih31 _ (by omega) (u + 1) ls _ _ rfl (by omega) hl hP hD hS
      exact loop31 _ (0) ls _ _ rfl (Nat.zero_le _) hl hP hD hS
    · skip
      rw [nI_leI (by omega) (by omega)] at hc7
      refine lv_aload_n hx hb d_V_change_10 rfl (lv_at hl 0 rfl) ?_
      refine va_get (D := D) (ci := 4) (v := .ref qc) (C := R_V) (T := F_V) (N := 11) hx hb hts wl_V hown hK hP 0 rfl rfl 7 (by decide) (hts _ wf_V_63) (fun _ h9 => h9) rfl d_V_change_11 ?_
      refine lv_iload_n hx hb d_V_change_14 rfl (lv_at hl 2 rfl) ?_
      refine lv_aload_n hx hb d_V_change_15 rfl (lv_at hl 0 rfl) ?_
      refine va_get (D := D) (ci := 4) (v := .ref qp) (C := R_V) (T := F_V) (N := 11) hx hb hts wl_V hown hK hP 0 rfl rfl 2 (by decide) (hts _ wf_V_10) (fun _ h9 => h9) rfl d_V_change_16 ?_
      refine sd_callVI (As := []) (rest := [.int (nI (t + 1)), .ref qc]) (cx := [(qp, .inr (0, [.ref qr, .int (nI ((pft pf t))), .int (nI ((pn - t)))])), (qr, .inl (cI, 1000, .inl (pr)))]) (w1 := [(qp, .inr (0, [.ref qr, .int (nI (((pft pf t) + 1) % 1000)), .int (nI ((pn - t) - 1))])), (qr, .inl (cI, 1000, .inl (pr)))]) (c_P_take l D cI cZ cQ (qp) (qr) (pft pf t) (pn - t) (pr) (pft_lt hpf) (by omega)) ⟨wc_P_take, wm_V_223, wi_P, by decide, by decide, show (parseMethodDescriptor y_P_take.desc).map (fun d => d.parameters.length) = some 0 by decide +kernel⟩ wo_P_take wz_P_take hx hb hml hown hts hl.1 ⟨Nat.le_of_ble_eq_true rfl, Nat.le_of_ble_eq_true rfl⟩ ⟨Nat.le_of_ble_eq_true rfl, Nat.le_of_ble_eq_true rfl⟩ hK hP hD hS hA [1, 2] rfl (by decide) rfl rfl (q0 := 0) rfl rfl rfl (Nat.le_of_ble_eq_true rfl) d_V_change_19 (fun H locs hP hD hS => ?_)
      have hP : va_P D cls ((vW cI cQ cZ qv qp qr qj qg qs qh qn qu qw qH qF qc ql qf (nI (k)) (nI (n)) (ep) (nI (((pft pf t) + 1) % 1000)) (nI ((pn - t) - 1)) (1000) (pr) (wi) (M.2.2.2) (hf) (nI M.2.2.1) (lim) (nt) (lt) (nI (M.1)) (192) (M.2.1) (k) (nb) (k) (su) (k) (wt) (n + 1) (fun i => if i < n + 1 then some (hh i) else none) (n + 1) (fun i => if i < n + 1 then some (ff i) else none) (k) (cg_f pr pf ch t) (8) (le) (n + 1) (fl)) ++ va_pl L (rowE cI rw)) H := hP
      have hD : va_D A ((vW cI cQ cZ qv qp qr qj qg qs qh qn qu qw qH qF qc ql qf (nI (k)) (nI (n)) (ep) (nI (((pft pf t) + 1) % 1000)) (nI ((pn - t) - 1)) (1000) (pr) (wi) (M.2.2.2) (hf) (nI M.2.2.1) (lim) (nt) (lt) (nI (M.1)) (192) (M.2.1) (k) (nb) (k) (su) (k) (wt) (n + 1) (fun i => if i < n + 1 then some (hh i) else none) (n + 1) (fun i => if i < n + 1 then some (ff i) else none) (k) (cg_f pr pf ch t) (8) (le) (n + 1) (fl)) ++ va_pl L (rowE cI rw)) := hD
      refine sd_iast (j := t + 1) hx hb hK hP hD hS 12 0 rfl rfl (by omega) (by omega) d_V_change_22 (fun H locs hP hD hS => ?_)
      have hP : va_P D cls ((vW cI cQ cZ qv qp qr qj qg qs qh qn qu qw qH qF qc ql qf (nI (k)) (nI (n)) (ep) (nI (((pft pf t) + 1) % 1000)) (nI ((pn - t) - 1)) (1000) (pr) (wi) (M.2.2.2) (hf) (nI M.2.2.1) (lim) (nt) (lt) (nI (M.1)) (192) (M.2.1) (k) (nb) (k) (su) (k) (wt) (n + 1) (fun i => if i < n + 1 then some (hh i) else none) (n + 1) (fun i => if i < n + 1 then some (ff i) else none) (k) (upd (cg_f pr pf ch t) (t + 1) (pr (pft pf t))) (8) (le) (n + 1) (fl)) ++ va_pl L (rowE cI rw)) H := hP
      have hD : va_D A ((vW cI cQ cZ qv qp qr qj qg qs qh qn qu qw qH qF qc ql qf (nI (k)) (nI (n)) (ep) (nI (((pft pf t) + 1) % 1000)) (nI ((pn - t) - 1)) (1000) (pr) (wi) (M.2.2.2) (hf) (nI M.2.2.1) (lim) (nt) (lt) (nI (M.1)) (192) (M.2.1) (k) (nb) (k) (su) (k) (wt) (n + 1) (fun i => if i < n + 1 then some (hh i) else none) (n + 1) (fun i => if i < n + 1 then some (ff i) else none) (k) (upd (cg_f pr pf ch t) (t + 1) (pr (pft pf t))) (8) (le) (n + 1) (fl)) ++ va_pl L (rowE cI rw)) := hD
      refine lv_iinc hx hb d_V_change_23 hl (k := 2) rfl (v := nI (t + 1 + 1)) (ii_1 _) (Nat.le_of_ble_eq_true rfl) (lv' := [(2, .int (nI (t + 1 + 1))), (0, .ref qv), (1, .int (nI j))]) rfl (fun ls hl => ?_)
      refine lv_goto (tgt := 2) hx hb d_V_change_26 rfl ?_
      have hl := lv_sub hl (l' := [(0, .ref qv), (1, .int (nI j)), (2, .int (nI (t + 1 + 1)))]) [1, 2, 0] rfl
      rw [Nat.sub_sub] at hP hD
      exact ih2 _ (by omega) (t + 1) ls _ _ rfl (by omega) hl hP hD hS
  exact loop2 _ (0) ls _ _ rfl (by omega) hl hP hD hS
set_option maxHeartbeats 4000000 in
set_option maxRecDepth 100000 in
theorem c_V_adoptShares (l : Launch) (D : va_G) (cI cZ cQ : ClassId) (qv : Nat) (qp : Nat) (qr : Nat) (qj : Nat) (qg : Nat) (qs : Nat) (qh : Nat) (qn : Nat) (qu : Nat) (qw : Nat) (qH : Nat) (qF : Nat) (qc : Nat) (ql : Nat) (qf : Nat) (k : Nat) (n : Nat) (pf : Nat) (pn : Nat) (pr : Nat → Int32) (wi : Int32) (M : ms_T) (hf : Int32) (lim : Int32) (nt : Int32) (lt : Int32) (nb : Nat → Int32) (su : Nat → Int32) (wt : Nat → Int32) (ch : Nat → Int32) (le : Nat → Int32) (fl : Nat → Int32) (ep : Int32) (L : List Nat) (hh : Nat → Nat) (ff : Nat → Nat) (rw : Nat → Nat → Int32) (x : Nat) (f : Nat) (lf : Nat) (hk : k < 2 ^ 20) (hn : n < 2 ^ 20) (hhL : ∀ i, i < n + 1 → hh i ∈ L) (ffL : ∀ i, i < n + 1 → ff i ∈ L) (hx1 : x < n + 1) (hf8 : f < 8) (hlf : le f = nI lf) (hl8 : lf ≤ 8) : sd_V l D (tyL cI cZ cQ) y_V_adoptShares b_V_adoptShares 4 ({ frames := 1, cells := 0, slots := 0, locals := 21 }) [.ref qv, .int (nI x), .int (nI f)] ((vW cI cQ cZ qv qp qr qj qg qs qh qn qu qw qH qF qc ql qf (nI (k)) (nI (n)) (ep) (nI (pf)) (nI (pn)) (1000) (pr) (wi) (M.2.2.2) (hf) (nI M.2.2.1) (lim) (nt) (lt) (nI (M.1)) (192) (M.2.1) (k) (nb) (k) (su) (k) (wt) (n + 1) (fun i => if i < n + 1 then some (hh i) else none) (n + 1) (fun i => if i < n + 1 then some (ff i) else none) (k) (ch) (8) (le) (n + 1) (fl)) ++ va_pl L (rowE cI rw)) ((vW cI cQ cZ qv qp qr qj qg qs qh qn qu qw qH qF qc ql qf (nI (k)) (nI (n)) (ep) (nI (pf)) (nI (pn)) (1000) (pr) (wi) (M.2.2.2) (hf) (nI M.2.2.1) (lim) (nt) (lt) (nI (M.1)) (192) (M.2.1) (k) (nb) (k) (su) (k) (wt) (n + 1) (fun i => if i < n + 1 then some (hh i) else none) (n + 1) (fun i => if i < n + 1 then some (ff i) else none) (k) (ch) (8) (le) (n + 1) (fl)) ++ va_pl L (rowE cI (as_f hh ff x f lf rw))) := by
  refine sd_ofV (by decide) (Nat.le_of_ble_eq_true rfl) ?_
  intro p e s m below meth c A ls hx hb hr hml hlk hown hts hK hP hD hA hS hl
  have hl : lv_has ls 4 [(0, .ref qv), (1, .int (nI x)), (2, .int (nI f))] := hl
  refine lv_iconst (v := 0) hx hb d_V_adoptShares_0 (by decide) ?_
  refine sd_top (y := nI 0) (rfl) ?_
  refine lv_istore_n hx hb d_V_adoptShares_1 rfl hl (Nat.le_of_ble_eq_true rfl) (lv' := [(3, .int (nI 0)), (0, .ref qv), (1, .int (nI x)), (2, .int (nI f))]) rfl (fun ls hl => ?_)
  have hl := lv_sub hl (l' := [(0, .ref qv), (1, .int (nI x)), (2, .int (nI f)), (3, .int (nI 0))]) [1, 2, 3, 0] rfl
  have loop2 : ∀ (d : Nat) (b : Nat) (ls : Array Slot) (H : Heap) (locs : List Loc), lf - b = d → (b ≤ lf) → lv_has ls 4 [(0, .ref qv), (1, .int (nI x)), (2, .int (nI f)), (3, .int (nI (b)))] → va_P D cls ((vW cI cQ cZ qv qp qr qj qg qs qh qn qu qw qH qF qc ql qf (nI (k)) (nI (n)) (ep) (nI (pf)) (nI (pn)) (1000) (pr) (wi) (M.2.2.2) (hf) (nI M.2.2.1) (lim) (nt) (lt) (nI (M.1)) (192) (M.2.1) (k) (nb) (k) (su) (k) (wt) (n + 1) (fun i => if i < n + 1 then some (hh i) else none) (n + 1) (fun i => if i < n + 1 then some (ff i) else none) (k) (ch) (8) (le) (n + 1) (fl)) ++ va_pl L (rowE cI (as_f hh ff x f b rw))) H → va_D A ((vW cI cQ cZ qv qp qr qj qg qs qh qn qu qw qH qF qc ql qf (nI (k)) (nI (n)) (ep) (nI (pf)) (nI (pn)) (1000) (pr) (wi) (M.2.2.2) (hf) (nI M.2.2.1) (lim) (nt) (lt) (nI (M.1)) (192) (M.2.1) (k) (nb) (k) (su) (k) (wt) (n + 1) (fun i => if i < n + 1 then some (hh i) else none) (n + 1) (fun i => if i < n + 1 then some (ff i) else none) (k) (ch) (8) (le) (n + 1) (fl)) ++ va_pl L (rowE cI (as_f hh ff x f b rw))) → va_S A s.heap H locs → W p l e ({ frames := 1, cells := 0, slots := 0, locals := 21 }) s m ([.ref qv, .int (nI x), .int (nI f)] : List Value).toArray below meth c H locs 0 0 (MQ below (sd_qv D ((vW cI cQ cZ qv qp qr qj qg qs qh qn qu qw qH qF qc ql qf (nI (k)) (nI (n)) (ep) (nI (pf)) (nI (pn)) (1000) (pr) (wi) (M.2.2.2) (hf) (nI M.2.2.1) (lim) (nt) (lt) (nI (M.1)) (192) (M.2.1) (k) (nb) (k) (su) (k) (wt) (n + 1) (fun i => if i < n + 1 then some (hh i) else none) (n + 1) (fun i => if i < n + 1 then some (ff i) else none) (k) (ch) (8) (le) (n + 1) (fl)) ++ va_pl L (rowE cI (as_f hh ff x f lf rw))) A) ([.ref qv, .int (nI x), .int (nI f)] : List Value).toArray s 0 0 A) (F0 m 2 ls []) := by
    intro d
    induction d using Nat.strongRecOn with
    | _ d ih2 =>
    intro b ls H locs hd hb8 hl hP hD hS
    subst hd
    refine lv_iload_n hx hb d_V_adoptShares_2 rfl (lv_at hl 3 rfl) ?_
    refine lv_aload_n hx hb d_V_adoptShares_3 rfl (lv_at hl 0 rfl) ?_
    refine va_get (D := D) (ci := 4) (v := .ref ql) (C := R_V) (T := F_V) (N := 11) hx hb hts wl_V hown hK hP 0 rfl rfl 8 (by decide) (hts _ wf_V_23) (fun _ h9 => h9) rfl d_V_adoptShares_4 ?_
    refine lv_iload_n hx hb d_V_adoptShares_7 rfl (lv_at hl 2 rfl) ?_
    refine sd_iald (j := f) hx hb hK hP 13 0 rfl rfl (by omega) (by omega) d_V_adoptShares_8 ?_
    refine sd_top (y := nI (lf)) (hlf) ?_
    refine lv_icmp_ge (tgt := 42) hx hb d_V_adoptShares_9 rfl (fun hc9 => ?_) (fun hc9 => ?_)
    · skip
      rw [nI_leI (by omega) (by omega)] at hc9
      have hbl : lf = b := by omega
      subst hbl
      exact sd_vret hx hb hr hlk hP hS (Nat.le_of_ble_eq_true rfl) (Nat.le_of_ble_eq_true rfl) d_V_adoptShares_42
    · skip
      rw [nI_leI (by omega) (by omega)] at hc9
      refine lv_aload_n hx hb d_V_adoptShares_12 rfl (lv_at hl 0 rfl) ?_
      refine va_get (D := D) (ci := 4) (v := .ref qH) (C := R_V) (T := F_V) (N := 11) hx hb hts wl_V hown hK hP 0 rfl rfl 5 (by decide) (hts _ wf_V_57) (fun _ h9 => h9) rfl d_V_adoptShares_13 ?_
      refine lv_iload_n hx hb d_V_adoptShares_16 rfl (lv_at hl 1 rfl) ?_
      refine sd_aald (j := x) (z := hh (x)) hx hb hK hP 10 2 rfl rfl (by omega) (by omega) (if_pos (by omega)) d_V_adoptShares_17 ?_
      refine lv_iload_n hx hb d_V_adoptShares_18 rfl (lv_at hl 2 rfl) ?_
      refine lv_iload_n hx hb d_V_adoptShares_19 rfl (lv_at hl 3 rfl) ?_
      refine sd_callSI (As := [.int (nI f), .int (nI b)]) (rest := [.ref (hh (x))]) (cx := []) (w1 := []) (c_V_slot l D cI cZ cQ (f) (b)) ⟨wc_V_slot, wm_V_118, wi_V, by decide, by decide, show (parseMethodDescriptor y_V_slot.desc).map (fun d => d.parameters.length) = some 2 by decide +kernel⟩ ws_V_slot hx hb hml hown hts hl.1 ⟨Nat.le_of_ble_eq_true rfl, Nat.le_of_ble_eq_true rfl⟩ ⟨Nat.le_of_ble_eq_true rfl, Nat.le_of_ble_eq_true rfl⟩ hK hP hD hS hA [] rfl (by decide) rfl rfl rfl (Nat.le_of_ble_eq_true rfl) d_V_adoptShares_20 (fun H locs hP hD hS => ?_)
      have hP : va_P D cls ((vW cI cQ cZ qv qp qr qj qg qs qh qn qu qw qH qF qc ql qf (nI (k)) (nI (n)) (ep) (nI (pf)) (nI (pn)) (1000) (pr) (wi) (M.2.2.2) (hf) (nI M.2.2.1) (lim) (nt) (lt) (nI (M.1)) (192) (M.2.1) (k) (nb) (k) (su) (k) (wt) (n + 1) (fun i => if i < n + 1 then some (hh i) else none) (n + 1) (fun i => if i < n + 1 then some (ff i) else none) (k) (ch) (8) (le) (n + 1) (fl)) ++ va_pl L (rowE cI (as_f hh ff x f b rw))) H := hP
      have hD : va_D A ((vW cI cQ cZ qv qp qr qj qg qs qh qn qu qw qH qF qc ql qf (nI (k)) (nI (n)) (ep) (nI (pf)) (nI (pn)) (1000) (pr) (wi) (M.2.2.2) (hf) (nI M.2.2.1) (lim) (nt) (lt) (nI (M.1)) (192) (M.2.1) (k) (nb) (k) (su) (k) (wt) (n + 1) (fun i => if i < n + 1 then some (hh i) else none) (n + 1) (fun i => if i < n + 1 then some (ff i) else none) (k) (ch) (8) (le) (n + 1) (fl)) ++ va_pl L (rowE cI (as_f hh ff x f b rw))) := hD
      refine lv_aload_n hx hb d_V_adoptShares_23 rfl (lv_at hl 0 rfl) ?_
      refine va_get (D := D) (ci := 4) (v := .ref qF) (C := R_V) (T := F_V) (N := 11) hx hb hts wl_V hown hK hP 0 rfl rfl 6 (by decide) (hts _ wf_V_60) (fun _ h9 => h9) rfl d_V_adoptShares_24 ?_
      refine lv_iload_n hx hb d_V_adoptShares_27 rfl (lv_at hl 1 rfl) ?_
      refine sd_aald (j := x) (z := ff (x)) hx hb hK hP 11 2 rfl rfl (by omega) (by omega) (if_pos (by omega)) d_V_adoptShares_28 ?_
      refine lv_iload_n hx hb d_V_adoptShares_29 rfl (lv_at hl 2 rfl) ?_
      refine lv_iload_n hx hb d_V_adoptShares_30 rfl (lv_at hl 3 rfl) ?_
      refine sd_callSI (As := [.int (nI f), .int (nI b)]) (rest := [.ref (ff (x)), .int (nI (f * 8 + b)), .ref (hh (x))]) (cx := []) (w1 := []) (c_V_slot l D cI cZ cQ (f) (b)) ⟨wc_V_slot, wm_V_118, wi_V, by decide, by decide, show (parseMethodDescriptor y_V_slot.desc).map (fun d => d.parameters.length) = some 2 by decide +kernel⟩ ws_V_slot hx hb hml hown hts hl.1 ⟨Nat.le_of_ble_eq_true rfl, Nat.le_of_ble_eq_true rfl⟩ ⟨Nat.le_of_ble_eq_true rfl, Nat.le_of_ble_eq_true rfl⟩ hK hP hD hS hA [] rfl (by decide) rfl rfl rfl (Nat.le_of_ble_eq_true rfl) d_V_adoptShares_31 (fun H locs hP hD hS => ?_)
      have hP : va_P D cls ((vW cI cQ cZ qv qp qr qj qg qs qh qn qu qw qH qF qc ql qf (nI (k)) (nI (n)) (ep) (nI (pf)) (nI (pn)) (1000) (pr) (wi) (M.2.2.2) (hf) (nI M.2.2.1) (lim) (nt) (lt) (nI (M.1)) (192) (M.2.1) (k) (nb) (k) (su) (k) (wt) (n + 1) (fun i => if i < n + 1 then some (hh i) else none) (n + 1) (fun i => if i < n + 1 then some (ff i) else none) (k) (ch) (8) (le) (n + 1) (fl)) ++ va_pl L (rowE cI (as_f hh ff x f b rw))) H := hP
      have hD : va_D A ((vW cI cQ cZ qv qp qr qj qg qs qh qn qu qw qH qF qc ql qf (nI (k)) (nI (n)) (ep) (nI (pf)) (nI (pn)) (1000) (pr) (wi) (M.2.2.2) (hf) (nI M.2.2.1) (lim) (nt) (lt) (nI (M.1)) (192) (M.2.1) (k) (nb) (k) (su) (k) (wt) (n + 1) (fun i => if i < n + 1 then some (hh i) else none) (n + 1) (fun i => if i < n + 1 then some (ff i) else none) (k) (ch) (8) (le) (n + 1) (fl)) ++ va_pl L (rowE cI (as_f hh ff x f b rw))) := hD
      refine sd_rld (z := ff (x)) (j := f * 8 + b) hx hb hK hP (ffL (x) (by omega)) 0 rfl (by omega) d_V_adoptShares_34 ?_
      refine sd_rst (z := hh (x)) (j := f * 8 + b) hx hb hK hP hD hS (hhL (x) (by omega)) 0 rfl (by omega) d_V_adoptShares_35 (fun H locs hP hD hS => ?_)
      have hP : va_P D cls ((vW cI cQ cZ qv qp qr qj qg qs qh qn qu qw qH qF qc ql qf (nI (k)) (nI (n)) (ep) (nI (pf)) (nI (pn)) (1000) (pr) (wi) (M.2.2.2) (hf) (nI M.2.2.1) (lim) (nt) (lt) (nI (M.1)) (192) (M.2.1) (k) (nb) (k) (su) (k) (wt) (n + 1) (fun i => if i < n + 1 then some (hh i) else none) (n + 1) (fun i => if i < n + 1 then some (ff i) else none) (k) (ch) (8) (le) (n + 1) (fl)) ++ va_pl L (rowE cI (va_up (as_f hh ff x f b rw) (hh (x)) (upd ((as_f hh ff x f b rw) (hh (x))) (f * 8 + b) ((as_f hh ff x f b rw) (ff (x)) (f * 8 + b)))))) H := hP
      have hD : va_D A ((vW cI cQ cZ qv qp qr qj qg qs qh qn qu qw qH qF qc ql qf (nI (k)) (nI (n)) (ep) (nI (pf)) (nI (pn)) (1000) (pr) (wi) (M.2.2.2) (hf) (nI M.2.2.1) (lim) (nt) (lt) (nI (M.1)) (192) (M.2.1) (k) (nb) (k) (su) (k) (wt) (n + 1) (fun i => if i < n + 1 then some (hh i) else none) (n + 1) (fun i => if i < n + 1 then some (ff i) else none) (k) (ch) (8) (le) (n + 1) (fl)) ++ va_pl L (rowE cI (va_up (as_f hh ff x f b rw) (hh (x)) (upd ((as_f hh ff x f b rw) (hh (x))) (f * 8 + b) ((as_f hh ff x f b rw) (ff (x)) (f * 8 + b)))))) := hD
      refine lv_iinc hx hb d_V_adoptShares_36 hl (k := 3) rfl (v := nI (b + 1)) (ii_1 _) (Nat.le_of_ble_eq_true rfl) (lv' := [(3, .int (nI (b + 1))), (0, .ref qv), (1, .int (nI x)), (2, .int (nI f))]) rfl (fun ls hl => ?_)
      refine lv_goto (tgt := 2) hx hb d_V_adoptShares_39 rfl ?_
      have hl := lv_sub hl (l' := [(0, .ref qv), (1, .int (nI x)), (2, .int (nI f)), (3, .int (nI (b + 1)))]) [1, 2, 3, 0] rfl
      exact ih2 _ (by omega) (b + 1) ls _ _ rfl (by omega) hl hP hD hS
  exact loop2 _ (0) ls _ _ rfl (Nat.zero_le _) hl hP hD hS
set_option maxHeartbeats 4000000 in
set_option maxRecDepth 100000 in
theorem c_V_adoptFile (l : Launch) (D : va_G) (cI cZ cQ : ClassId) (qv : Nat) (qp : Nat) (qr : Nat) (qj : Nat) (qg : Nat) (qs : Nat) (qh : Nat) (qn : Nat) (qu : Nat) (qw : Nat) (qH : Nat) (qF : Nat) (qc : Nat) (ql : Nat) (qf : Nat) (k : Nat) (n : Nat) (pf : Nat) (pn : Nat) (pr : Nat → Int32) (wi : Int32) (M : ms_T) (hf : Int32) (lim : Int32) (nt : Int32) (lt : Int32) (nb : Nat → Int32) (su : Nat → Int32) (wt : Nat → Int32) (ch : Nat → Int32) (le : Nat → Int32) (fl : Nat → Int32) (ep : Int32) (L : List Nat) (hh : Nat → Nat) (ff : Nat → Nat) (rw : Nat → Nat → Int32) (f : Nat) (lf : Nat) (hk : k < 2 ^ 20) (hn : n < 2 ^ 20) (hhL : ∀ i, i < n + 1 → hh i ∈ L) (ffL : ∀ i, i < n + 1 → ff i ∈ L) (hf8 : f < 8) (hlf : le f = nI lf) (hl8 : lf ≤ 8) : sd_V l D (tyL cI cZ cQ) y_V_adoptFile b_V_adoptFile 3 ({ frames := 2, cells := 0, slots := 0, locals := 44 }) [.ref qv, .int (nI f)] ((vW cI cQ cZ qv qp qr qj qg qs qh qn qu qw qH qF qc ql qf (nI (k)) (nI (n)) (ep) (nI (pf)) (nI (pn)) (1000) (pr) (wi) (M.2.2.2) (hf) (nI M.2.2.1) (lim) (nt) (lt) (nI (M.1)) (192) (M.2.1) (k) (nb) (k) (su) (k) (wt) (n + 1) (fun i => if i < n + 1 then some (hh i) else none) (n + 1) (fun i => if i < n + 1 then some (ff i) else none) (k) (ch) (8) (le) (n + 1) (fl)) ++ va_pl L (rowE cI rw)) ((vW cI cQ cZ qv qp qr qj qg qs qh qn qu qw qH qF qc ql qf (nI (k)) (nI (n)) (ep) (nI (pf)) (nI (pn)) (1000) (pr) (wi) (M.2.2.2) (hf) (nI M.2.2.1) (lim) (nt) (lt) (nI (M.1)) (192) (M.2.1) (k) (nb) (k) (su) (k) (wt) (n + 1) (fun i => if i < n + 1 then some (hh i) else none) (n + 1) (fun i => if i < n + 1 then some (ff i) else none) (k) (ch) (8) (le) (n + 1) (fl)) ++ va_pl L (rowE cI (af_f hh ff f lf n rw))) := by
  refine sd_ofV (by decide) (Nat.le_of_ble_eq_true rfl) ?_
  intro p e s m below meth c A ls hx hb hr hml hlk hown hts hK hP hD hA hS hl
  have hl : lv_has ls 3 [(0, .ref qv), (1, .int (nI f))] := hl
  refine lv_iconst (v := 1) hx hb d_V_adoptFile_0 (by decide) ?_
  refine sd_top (y := nI (0 + 1)) (rfl) ?_
  refine lv_istore_n hx hb d_V_adoptFile_1 rfl hl (Nat.le_of_ble_eq_true rfl) (lv' := [(2, .int (nI (0 + 1))), (0, .ref qv), (1, .int (nI f))]) rfl (fun ls hl => ?_)
  have hl := lv_sub hl (l' := [(0, .ref qv), (1, .int (nI f)), (2, .int (nI (0 + 1)))]) [1, 2, 0] rfl
  have loop2 : ∀ (d : Nat) (u : Nat) (ls : Array Slot) (H : Heap) (locs : List Loc), n - u = d → (u ≤ n) → lv_has ls 3 [(0, .ref qv), (1, .int (nI f)), (2, .int (nI (u + 1)))] → va_P D cls ((vW cI cQ cZ qv qp qr qj qg qs qh qn qu qw qH qF qc ql qf (nI (k)) (nI (n)) (ep) (nI (pf)) (nI (pn)) (1000) (pr) (wi) (M.2.2.2) (hf) (nI M.2.2.1) (lim) (nt) (lt) (nI (M.1)) (192) (M.2.1) (k) (nb) (k) (su) (k) (wt) (n + 1) (fun i => if i < n + 1 then some (hh i) else none) (n + 1) (fun i => if i < n + 1 then some (ff i) else none) (k) (ch) (8) (le) (n + 1) (fl)) ++ va_pl L (rowE cI (af_f hh ff f lf u rw))) H → va_D A ((vW cI cQ cZ qv qp qr qj qg qs qh qn qu qw qH qF qc ql qf (nI (k)) (nI (n)) (ep) (nI (pf)) (nI (pn)) (1000) (pr) (wi) (M.2.2.2) (hf) (nI M.2.2.1) (lim) (nt) (lt) (nI (M.1)) (192) (M.2.1) (k) (nb) (k) (su) (k) (wt) (n + 1) (fun i => if i < n + 1 then some (hh i) else none) (n + 1) (fun i => if i < n + 1 then some (ff i) else none) (k) (ch) (8) (le) (n + 1) (fl)) ++ va_pl L (rowE cI (af_f hh ff f lf u rw))) → va_S A s.heap H locs → W p l e ({ frames := 2, cells := 0, slots := 0, locals := 44 }) s m ([.ref qv, .int (nI f)] : List Value).toArray below meth c H locs 0 0 (MQ below (sd_qv D ((vW cI cQ cZ qv qp qr qj qg qs qh qn qu qw qH qF qc ql qf (nI (k)) (nI (n)) (ep) (nI (pf)) (nI (pn)) (1000) (pr) (wi) (M.2.2.2) (hf) (nI M.2.2.1) (lim) (nt) (lt) (nI (M.1)) (192) (M.2.1) (k) (nb) (k) (su) (k) (wt) (n + 1) (fun i => if i < n + 1 then some (hh i) else none) (n + 1) (fun i => if i < n + 1 then some (ff i) else none) (k) (ch) (8) (le) (n + 1) (fl)) ++ va_pl L (rowE cI (af_f hh ff f lf n rw))) A) ([.ref qv, .int (nI f)] : List Value).toArray s 0 0 A) (F0 m 2 ls []) := by
    intro d
    induction d using Nat.strongRecOn with
    | _ d ih2 =>
    intro u ls H locs hd hu hl hP hD hS
    subst hd
    refine lv_iload_n hx hb d_V_adoptFile_2 rfl (lv_at hl 2 rfl) ?_
    refine lv_aload_n hx hb d_V_adoptFile_3 rfl (lv_at hl 0 rfl) ?_
    refine va_get (D := D) (ci := 4) (v := .int (nI (n))) (C := R_V) (T := F_V) (N := 11) hx hb hts wl_V hown hK hP 0 rfl rfl 1 (by decide) (hts _ wf_V_40) (fun _ h9 => h9) rfl d_V_adoptFile_4 ?_
    refine lv_icmp_gt (tgt := 22) hx hb d_V_adoptFile_7 rfl (fun hc7 => ?_) (fun hc7 => ?_)
    · skip
      rw [nI_ltI (by omega) (by omega)] at hc7
      have hun : n = u := by omega
      subst hun
      exact sd_vret hx hb hr hlk hP hS (Nat.le_of_ble_eq_true rfl) (Nat.le_of_ble_eq_true rfl) d_V_adoptFile_22
    · skip
      rw [nI_ltI (by omega) (by omega)] at hc7
      refine lv_aload_n hx hb d_V_adoptFile_10 rfl (lv_at hl 0 rfl) ?_
      refine lv_iload_n hx hb d_V_adoptFile_11 rfl (lv_at hl 2 rfl) ?_
      refine lv_iload_n hx hb d_V_adoptFile_12 rfl (lv_at hl 1 rfl) ?_
      refine sd_allVV (As := [.int (nI (u + 1)), .int (nI f)]) (rest := []) (w1 := ((vW cI cQ cZ qv qp qr qj qg qs qh qn qu qw qH qF qc ql qf (nI (k)) (nI (n)) (ep) (nI (pf)) (nI (pn)) (1000) (pr) (wi) (M.2.2.2) (hf) (nI M.2.2.1) (lim) (nt) (lt) (nI (M.1)) (192) (M.2.1) (k) (nb) (k) (su) (k) (wt) (n + 1) (fun i => if i < n + 1 then some (hh i) else none) (n + 1) (fun i => if i < n + 1 then some (ff i) else none) (k) (ch) (8) (le) (n + 1) (fl)) ++ va_pl L (rowE cI (as_f hh ff (u + 1) f lf (af_f hh ff f lf u rw))))) (c_V_adoptShares l D cI cZ cQ (qv) (qp) (qr) (qj) (qg) (qs) (qh) (qn) (qu) (qw) (qH) (qF) (qc) (ql) (qf) (k) (n) (pf) (pn) (pr) (wi) (M) (hf) (lim) (nt) (lt) (nb) (su) (wt) (ch) (le) (fl) (ep) (L) (hh) (ff) (af_f hh ff f lf u rw) (u + 1) (f) (lf) (hk) (hn) (hhL) (ffL) (by omega) (hf8) (hlf) (hl8)) ⟨wc_V_adoptShares, wm_V_169, wi_V, by decide, by decide, show (parseMethodDescriptor y_V_adoptShares.desc).map (fun d => d.parameters.length) = some 2 by decide +kernel⟩ wo_V_adoptShares wz_V_adoptShares hx hb hml hown hts hl.1 ⟨Nat.le_of_ble_eq_true rfl, Nat.le_of_ble_eq_true rfl⟩ ⟨Nat.le_of_ble_eq_true rfl, Nat.le_of_ble_eq_true rfl⟩ hK hP hD hS hA (va_adr rfl) (q0 := 0) rfl rfl rfl (Nat.le_of_ble_eq_true rfl) d_V_adoptFile_13 (fun H locs hP hD hS => ?_)
      have hP : va_P D cls ((vW cI cQ cZ qv qp qr qj qg qs qh qn qu qw qH qF qc ql qf (nI (k)) (nI (n)) (ep) (nI (pf)) (nI (pn)) (1000) (pr) (wi) (M.2.2.2) (hf) (nI M.2.2.1) (lim) (nt) (lt) (nI (M.1)) (192) (M.2.1) (k) (nb) (k) (su) (k) (wt) (n + 1) (fun i => if i < n + 1 then some (hh i) else none) (n + 1) (fun i => if i < n + 1 then some (ff i) else none) (k) (ch) (8) (le) (n + 1) (fl)) ++ va_pl L (rowE cI (as_f hh ff (u + 1) f lf (af_f hh ff f lf u rw)))) H := hP
      have hD : va_D A ((vW cI cQ cZ qv qp qr qj qg qs qh qn qu qw qH qF qc ql qf (nI (k)) (nI (n)) (ep) (nI (pf)) (nI (pn)) (1000) (pr) (wi) (M.2.2.2) (hf) (nI M.2.2.1) (lim) (nt) (lt) (nI (M.1)) (192) (M.2.1) (k) (nb) (k) (su) (k) (wt) (n + 1) (fun i => if i < n + 1 then some (hh i) else none) (n + 1) (fun i => if i < n + 1 then some (ff i) else none) (k) (ch) (8) (le) (n + 1) (fl)) ++ va_pl L (rowE cI (as_f hh ff (u + 1) f lf (af_f hh ff f lf u rw)))) := hD
      refine lv_iinc hx hb d_V_adoptFile_16 hl (k := 2) rfl (v := nI (u + 1 + 1)) (ii_1 _) (Nat.le_of_ble_eq_true rfl) (lv' := [(2, .int (nI (u + 1 + 1))), (0, .ref qv), (1, .int (nI f))]) rfl (fun ls hl => ?_)
      refine lv_goto (tgt := 2) hx hb d_V_adoptFile_19 rfl ?_
      have hl := lv_sub hl (l' := [(0, .ref qv), (1, .int (nI f)), (2, .int (nI (u + 1 + 1)))]) [1, 2, 0] rfl
      exact ih2 _ (by omega) (u + 1) ls _ _ rfl (by omega) hl hP hD hS
  exact loop2 _ (0) ls _ _ rfl (Nat.zero_le _) hl hP hD hS
end
section
/-- what the pieces of one term do: (bytes taken, the rest, the sums, the messages) -/
abbrev rb_T : Type := Nat × Int32 × (Nat → Int32) × ms_T
def tm_f (sb wb : Nat → BitVec 8) (g : Nat) : Int32 := bI (gf_m (sb g) (wb g))
def rb_s (pr : Nat → Int32) (pf k : Nat) (nb : Nat → Int32) (lim : Int32) (g h : Nat) (S : rb_T) : rb_T :=
  (if h < k - 1 then S.1 + 1 else S.1, S.2.1 ^^^ (if h < k - 1 then pr (pft pf S.1) else S.2.1), upd S.2.2.1 h (S.2.2.1 h ^^^ (if h < k - 1 then pr (pft pf S.1) else S.2.1)), ms_s lim S.2.2.2 (nb g) (nb h) (if h < k - 1 then pr (pft pf S.1) else S.2.1))
def rb_i (pr : Nat → Int32) (pf k : Nat) (nb : Nat → Int32) (lim : Int32) (g : Nat) : Nat → rb_T → rb_T
  | 0, S => S
  | h + 1, S => rb_s pr pf k nb lim g h (rb_i pr pf k nb lim g h S)
def rb_o (pr : Nat → Int32) (pf k : Nat) (nb : Nat → Int32) (lim : Int32) (tm : Nat → Int32) : Nat → Nat × (Nat → Int32) × ms_T → Nat × (Nat → Int32) × ms_T
  | 0, S => S
  | g + 1, S => ((rb_i pr pf k nb lim g k ((rb_o pr pf k nb lim tm g S).1, tm g, (rb_o pr pf k nb lim tm g S).2.1, (rb_o pr pf k nb lim tm g S).2.2)).1, (rb_i pr pf k nb lim g k ((rb_o pr pf k nb lim tm g S).1, tm g, (rb_o pr pf k nb lim tm g S).2.1, (rb_o pr pf k nb lim tm g S).2.2)).2.2.1, (rb_i pr pf k nb lim g k ((rb_o pr pf k nb lim tm g S).1, tm g, (rb_o pr pf k nb lim tm g S).2.1, (rb_o pr pf k nb lim tm g S).2.2)).2.2.2)
def rb_e (su nb : Nat → Int32) (lim x : Int32) : Nat → Int32 × ms_T → Int32 × ms_T
  | 0, S => S
  | h + 1, S => ((rb_e su nb lim x h S).1 ^^^ su h, ms_s lim (rb_e su nb lim x h S).2 (nb h) x (su h))
theorem rb_i1 (pr : Nat → Int32) (pf k : Nat) (nb : Nat → Int32) (lim : Int32) (g h : Nat) (S : rb_T) : (rb_i pr pf k nb lim g h S).1 = S.1 + min h (k - 1) := by
  induction h with
  | zero => show S.1 = S.1 + min 0 (k - 1); omega
  | succ h ih =>
    show (if h < k - 1 then (rb_i pr pf k nb lim g h S).1 + 1 else (rb_i pr pf k nb lim g h S).1) = S.1 + min (h + 1) (k - 1)
    by_cases h1 : h < k - 1
    · rw [if_pos h1, ih]; omega
    · rw [if_neg h1, ih]; omega
theorem rb_i2 (pr : Nat → Int32) (pf k : Nat) (nb : Nat → Int32) (lim : Int32) (g h : Nat) (S : rb_T) : (rb_i pr pf k nb lim g h S).2.2.2.1 ≤ S.2.2.2.1 + h := by
  induction h with
  | zero => exact Nat.le_refl _
  | succ h ih =>
    have := ms_b lim (rb_i pr pf k nb lim g h S).2.2.2 (nb g) (nb h) (if h < k - 1 then pr (pft pf (rb_i pr pf k nb lim g h S).1) else (rb_i pr pf k nb lim g h S).2.1)
    show (ms_s lim (rb_i pr pf k nb lim g h S).2.2.2 (nb g) (nb h) (if h < k - 1 then pr (pft pf (rb_i pr pf k nb lim g h S).1) else (rb_i pr pf k nb lim g h S).2.1)).1 ≤ _
    omega
theorem rb_o1 (pr : Nat → Int32) (pf k : Nat) (nb : Nat → Int32) (lim : Int32) (tm : Nat → Int32) (g : Nat) (su : Nat → Int32) (M : ms_T) : (rb_o pr pf k nb lim tm g (0, su, M)).1 = g * (k - 1) := by
  induction g with
  | zero => show 0 = 0 * (k - 1); omega
  | succ g ih =>
    have h := rb_i1 pr pf k nb lim g k ((rb_o pr pf k nb lim tm g (0, su, M)).1, tm g, (rb_o pr pf k nb lim tm g (0, su, M)).2.1, (rb_o pr pf k nb lim tm g (0, su, M)).2.2)
    show (rb_i pr pf k nb lim g k ((rb_o pr pf k nb lim tm g (0, su, M)).1, tm g, (rb_o pr pf k nb lim tm g (0, su, M)).2.1, (rb_o pr pf k nb lim tm g (0, su, M)).2.2)).1 = _
    rw [h, Nat.add_mul, Nat.one_mul]
    show (rb_o pr pf k nb lim tm g (0, su, M)).1 + min k (k - 1) = _
    rw [ih]; omega
theorem rb_o2 (pr : Nat → Int32) (pf k : Nat) (nb : Nat → Int32) (lim : Int32) (tm : Nat → Int32) (g : Nat) (S : Nat × (Nat → Int32) × ms_T) : (rb_o pr pf k nb lim tm g S).2.2.1 ≤ S.2.2.1 + g * k := by
  induction g with
  | zero => show S.2.2.1 ≤ S.2.2.1 + 0 * k; omega
  | succ g ih =>
    have h := rb_i2 pr pf k nb lim g k ((rb_o pr pf k nb lim tm g S).1, tm g, (rb_o pr pf k nb lim tm g S).2.1, (rb_o pr pf k nb lim tm g S).2.2)
    show (rb_i pr pf k nb lim g k ((rb_o pr pf k nb lim tm g S).1, tm g, (rb_o pr pf k nb lim tm g S).2.1, (rb_o pr pf k nb lim tm g S).2.2)).2.2.2.1 ≤ _
    rw [Nat.add_mul, Nat.one_mul]
    dsimp only at h
    omega
theorem rb_e2 (su nb : Nat → Int32) (lim x : Int32) (h : Nat) (S : Int32 × ms_T) : (rb_e su nb lim x h S).2.1 ≤ S.2.1 + h := by
  induction h with
  | zero => exact Nat.le_refl _
  | succ h ih =>
    have := ms_b lim (rb_e su nb lim x h S).2 (nb h) x (su h)
    show (ms_s lim (rb_e su nb lim x h S).2 (nb h) x (su h)).1 ≤ _
    omega
theorem d_V_rebuildByte_0 : decode b_V_rebuildByte 0 = .ok (.aload_n 0, 1) := by decide +kernel
theorem d_V_rebuildByte_1 : decode b_V_rebuildByte 1 = .ok (.getfield 51, 3) := by decide +kernel
theorem d_V_rebuildByte_4 : decode b_V_rebuildByte 4 = .ok (.invokevirtual 234, 3) := by decide +kernel
theorem d_V_rebuildByte_7 : decode b_V_rebuildByte 7 = .ok (.iconst 0, 1) := by decide +kernel
theorem d_V_rebuildByte_8 : decode b_V_rebuildByte 8 = .ok (.istore_n 3, 1) := by decide +kernel
theorem d_V_rebuildByte_9 : decode b_V_rebuildByte 9 = .ok (.iload_n 3, 1) := by decide +kernel
theorem d_V_rebuildByte_10 : decode b_V_rebuildByte 10 = .ok (.aload_n 0, 1) := by decide +kernel
theorem d_V_rebuildByte_11 : decode b_V_rebuildByte 11 = .ok (.getfield 43, 3) := by decide +kernel
theorem d_V_rebuildByte_14 : decode b_V_rebuildByte 14 = .ok (.if_icmp .ge 118, 3) := by decide +kernel
theorem d_V_rebuildByte_17 : decode b_V_rebuildByte 17 = .ok (.aload_n 0, 1) := by decide +kernel
theorem d_V_rebuildByte_18 : decode b_V_rebuildByte 18 = .ok (.getfield 51, 3) := by decide +kernel
theorem d_V_rebuildByte_21 : decode b_V_rebuildByte 21 = .ok (.iload_n 3, 1) := by decide +kernel
theorem d_V_rebuildByte_22 : decode b_V_rebuildByte 22 = .ok (.aload_n 0, 1) := by decide +kernel
theorem d_V_rebuildByte_23 : decode b_V_rebuildByte 23 = .ok (.getfield 57, 3) := by decide +kernel
theorem d_V_rebuildByte_26 : decode b_V_rebuildByte 26 = .ok (.iload_n 2, 1) := by decide +kernel
theorem d_V_rebuildByte_27 : decode b_V_rebuildByte 27 = .ok (.invokevirtual 237, 3) := by decide +kernel
theorem d_V_rebuildByte_30 : decode b_V_rebuildByte 30 = .ok (.istore 4, 2) := by decide +kernel
theorem d_V_rebuildByte_32 : decode b_V_rebuildByte 32 = .ok (.iconst 0, 1) := by decide +kernel
theorem d_V_rebuildByte_33 : decode b_V_rebuildByte 33 = .ok (.istore 5, 2) := by decide +kernel
theorem d_V_rebuildByte_35 : decode b_V_rebuildByte 35 = .ok (.iload 5, 2) := by decide +kernel
theorem d_V_rebuildByte_37 : decode b_V_rebuildByte 37 = .ok (.aload_n 0, 1) := by decide +kernel
theorem d_V_rebuildByte_38 : decode b_V_rebuildByte 38 = .ok (.getfield 43, 3) := by decide +kernel
theorem d_V_rebuildByte_41 : decode b_V_rebuildByte 41 = .ok (.if_icmp .ge 85, 3) := by decide +kernel
theorem d_V_rebuildByte_44 : decode b_V_rebuildByte 44 = .ok (.iload 5, 2) := by decide +kernel
theorem d_V_rebuildByte_46 : decode b_V_rebuildByte 46 = .ok (.aload_n 0, 1) := by decide +kernel
theorem d_V_rebuildByte_47 : decode b_V_rebuildByte 47 = .ok (.getfield 43, 3) := by decide +kernel
theorem d_V_rebuildByte_50 : decode b_V_rebuildByte 50 = .ok (.iconst 1, 1) := by decide +kernel
theorem d_V_rebuildByte_51 : decode b_V_rebuildByte 51 = .ok (.isub, 1) := by decide +kernel
theorem d_V_rebuildByte_52 : decode b_V_rebuildByte 52 = .ok (.if_icmp .ge 13, 3) := by decide +kernel
theorem d_V_rebuildByte_55 : decode b_V_rebuildByte 55 = .ok (.aload_n 0, 1) := by decide +kernel
theorem d_V_rebuildByte_56 : decode b_V_rebuildByte 56 = .ok (.getfield 10, 3) := by decide +kernel
theorem d_V_rebuildByte_59 : decode b_V_rebuildByte 59 = .ok (.invokevirtual 223, 3) := by decide +kernel
theorem d_V_rebuildByte_62 : decode b_V_rebuildByte 62 = .ok (.goto 5, 3) := by decide +kernel
theorem d_V_rebuildByte_65 : decode b_V_rebuildByte 65 = .ok (.iload 4, 2) := by decide +kernel
theorem d_V_rebuildByte_67 : decode b_V_rebuildByte 67 = .ok (.istore 6, 2) := by decide +kernel
theorem d_V_rebuildByte_69 : decode b_V_rebuildByte 69 = .ok (.iload 4, 2) := by decide +kernel
theorem d_V_rebuildByte_71 : decode b_V_rebuildByte 71 = .ok (.iload 6, 2) := by decide +kernel
theorem d_V_rebuildByte_73 : decode b_V_rebuildByte 73 = .ok (.ixor, 1) := by decide +kernel
theorem d_V_rebuildByte_74 : decode b_V_rebuildByte 74 = .ok (.istore 4, 2) := by decide +kernel
theorem d_V_rebuildByte_76 : decode b_V_rebuildByte 76 = .ok (.aload_n 0, 1) := by decide +kernel
theorem d_V_rebuildByte_77 : decode b_V_rebuildByte 77 = .ok (.getfield 51, 3) := by decide +kernel
theorem d_V_rebuildByte_80 : decode b_V_rebuildByte 80 = .ok (.getfield 241, 3) := by decide +kernel
theorem d_V_rebuildByte_83 : decode b_V_rebuildByte 83 = .ok (.iload 5, 2) := by decide +kernel
theorem d_V_rebuildByte_85 : decode b_V_rebuildByte 85 = .ok (.dup2, 1) := by decide +kernel
theorem d_V_rebuildByte_86 : decode b_V_rebuildByte 86 = .ok (.iaload, 1) := by decide +kernel
theorem d_V_rebuildByte_87 : decode b_V_rebuildByte 87 = .ok (.iload 6, 2) := by decide +kernel
theorem d_V_rebuildByte_89 : decode b_V_rebuildByte 89 = .ok (.ixor, 1) := by decide +kernel
theorem d_V_rebuildByte_90 : decode b_V_rebuildByte 90 = .ok (.iastore, 1) := by decide +kernel
theorem d_V_rebuildByte_91 : decode b_V_rebuildByte 91 = .ok (.aload_n 0, 1) := by decide +kernel
theorem d_V_rebuildByte_92 : decode b_V_rebuildByte 92 = .ok (.getfield 19, 3) := by decide +kernel
theorem d_V_rebuildByte_95 : decode b_V_rebuildByte 95 = .ok (.aload_n 0, 1) := by decide +kernel
theorem d_V_rebuildByte_96 : decode b_V_rebuildByte 96 = .ok (.getfield 51, 3) := by decide +kernel
theorem d_V_rebuildByte_99 : decode b_V_rebuildByte 99 = .ok (.getfield 244, 3) := by decide +kernel
theorem d_V_rebuildByte_102 : decode b_V_rebuildByte 102 = .ok (.iload_n 3, 1) := by decide +kernel
theorem d_V_rebuildByte_103 : decode b_V_rebuildByte 103 = .ok (.iaload, 1) := by decide +kernel
theorem d_V_rebuildByte_104 : decode b_V_rebuildByte 104 = .ok (.aload_n 0, 1) := by decide +kernel
theorem d_V_rebuildByte_105 : decode b_V_rebuildByte 105 = .ok (.getfield 51, 3) := by decide +kernel
theorem d_V_rebuildByte_108 : decode b_V_rebuildByte 108 = .ok (.getfield 244, 3) := by decide +kernel
theorem d_V_rebuildByte_111 : decode b_V_rebuildByte 111 = .ok (.iload 5, 2) := by decide +kernel
theorem d_V_rebuildByte_113 : decode b_V_rebuildByte 113 = .ok (.iaload, 1) := by decide +kernel
theorem d_V_rebuildByte_114 : decode b_V_rebuildByte 114 = .ok (.iload 6, 2) := by decide +kernel
theorem d_V_rebuildByte_116 : decode b_V_rebuildByte 116 = .ok (.invokevirtual 230, 3) := by decide +kernel
theorem d_V_rebuildByte_119 : decode b_V_rebuildByte 119 = .ok (.pop, 1) := by decide +kernel
theorem d_V_rebuildByte_120 : decode b_V_rebuildByte 120 = .ok (.iinc 5 1, 3) := by decide +kernel
theorem d_V_rebuildByte_123 : decode b_V_rebuildByte 123 = .ok (.goto (-88), 3) := by decide +kernel
theorem d_V_rebuildByte_126 : decode b_V_rebuildByte 126 = .ok (.iinc 3 1, 3) := by decide +kernel
theorem d_V_rebuildByte_129 : decode b_V_rebuildByte 129 = .ok (.goto (-120), 3) := by decide +kernel
theorem d_V_rebuildByte_132 : decode b_V_rebuildByte 132 = .ok (.iconst 0, 1) := by decide +kernel
theorem d_V_rebuildByte_133 : decode b_V_rebuildByte 133 = .ok (.istore_n 3, 1) := by decide +kernel
theorem d_V_rebuildByte_134 : decode b_V_rebuildByte 134 = .ok (.iconst 0, 1) := by decide +kernel
theorem d_V_rebuildByte_135 : decode b_V_rebuildByte 135 = .ok (.istore 4, 2) := by decide +kernel
theorem d_V_rebuildByte_137 : decode b_V_rebuildByte 137 = .ok (.iload 4, 2) := by decide +kernel
theorem d_V_rebuildByte_139 : decode b_V_rebuildByte 139 = .ok (.aload_n 0, 1) := by decide +kernel
theorem d_V_rebuildByte_140 : decode b_V_rebuildByte 140 = .ok (.getfield 43, 3) := by decide +kernel
theorem d_V_rebuildByte_143 : decode b_V_rebuildByte 143 = .ok (.if_icmp .ge 51, 3) := by decide +kernel
theorem d_V_rebuildByte_146 : decode b_V_rebuildByte 146 = .ok (.iload_n 3, 1) := by decide +kernel
theorem d_V_rebuildByte_147 : decode b_V_rebuildByte 147 = .ok (.aload_n 0, 1) := by decide +kernel
theorem d_V_rebuildByte_148 : decode b_V_rebuildByte 148 = .ok (.getfield 51, 3) := by decide +kernel
theorem d_V_rebuildByte_151 : decode b_V_rebuildByte 151 = .ok (.getfield 241, 3) := by decide +kernel
theorem d_V_rebuildByte_154 : decode b_V_rebuildByte 154 = .ok (.iload 4, 2) := by decide +kernel
theorem d_V_rebuildByte_156 : decode b_V_rebuildByte 156 = .ok (.iaload, 1) := by decide +kernel
theorem d_V_rebuildByte_157 : decode b_V_rebuildByte 157 = .ok (.ixor, 1) := by decide +kernel
theorem d_V_rebuildByte_158 : decode b_V_rebuildByte 158 = .ok (.istore_n 3, 1) := by decide +kernel
theorem d_V_rebuildByte_159 : decode b_V_rebuildByte 159 = .ok (.aload_n 0, 1) := by decide +kernel
theorem d_V_rebuildByte_160 : decode b_V_rebuildByte 160 = .ok (.getfield 19, 3) := by decide +kernel
theorem d_V_rebuildByte_163 : decode b_V_rebuildByte 163 = .ok (.aload_n 0, 1) := by decide +kernel
theorem d_V_rebuildByte_164 : decode b_V_rebuildByte 164 = .ok (.getfield 51, 3) := by decide +kernel
theorem d_V_rebuildByte_167 : decode b_V_rebuildByte 167 = .ok (.getfield 244, 3) := by decide +kernel
theorem d_V_rebuildByte_170 : decode b_V_rebuildByte 170 = .ok (.iload 4, 2) := by decide +kernel
theorem d_V_rebuildByte_172 : decode b_V_rebuildByte 172 = .ok (.iaload, 1) := by decide +kernel
theorem d_V_rebuildByte_173 : decode b_V_rebuildByte 173 = .ok (.iload_n 1, 1) := by decide +kernel
theorem d_V_rebuildByte_174 : decode b_V_rebuildByte 174 = .ok (.aload_n 0, 1) := by decide +kernel
theorem d_V_rebuildByte_175 : decode b_V_rebuildByte 175 = .ok (.getfield 51, 3) := by decide +kernel
theorem d_V_rebuildByte_178 : decode b_V_rebuildByte 178 = .ok (.getfield 241, 3) := by decide +kernel
theorem d_V_rebuildByte_181 : decode b_V_rebuildByte 181 = .ok (.iload 4, 2) := by decide +kernel
theorem d_V_rebuildByte_183 : decode b_V_rebuildByte 183 = .ok (.iaload, 1) := by decide +kernel
theorem d_V_rebuildByte_184 : decode b_V_rebuildByte 184 = .ok (.invokevirtual 230, 3) := by decide +kernel
theorem d_V_rebuildByte_187 : decode b_V_rebuildByte 187 = .ok (.pop, 1) := by decide +kernel
theorem d_V_rebuildByte_188 : decode b_V_rebuildByte 188 = .ok (.iinc 4 1, 3) := by decide +kernel
theorem d_V_rebuildByte_191 : decode b_V_rebuildByte 191 = .ok (.goto (-54), 3) := by decide +kernel
theorem d_V_rebuildByte_194 : decode b_V_rebuildByte 194 = .ok (.aload_n 0, 1) := by decide +kernel
theorem d_V_rebuildByte_195 : decode b_V_rebuildByte 195 = .ok (.getfield 60, 3) := by decide +kernel
theorem d_V_rebuildByte_198 : decode b_V_rebuildByte 198 = .ok (.iload_n 1, 1) := by decide +kernel
theorem d_V_rebuildByte_199 : decode b_V_rebuildByte 199 = .ok (.aaload, 1) := by decide +kernel
theorem d_V_rebuildByte_200 : decode b_V_rebuildByte 200 = .ok (.iload_n 2, 1) := by decide +kernel
theorem d_V_rebuildByte_201 : decode b_V_rebuildByte 201 = .ok (.iload_n 3, 1) := by decide +kernel
theorem d_V_rebuildByte_202 : decode b_V_rebuildByte 202 = .ok (.iastore, 1) := by decide +kernel
theorem d_V_rebuildByte_203 : decode b_V_rebuildByte 203 = .ok (.return_, 1) := by decide +kernel
theorem d_V_resume_0 : decode b_V_resume 0 = .ok (.aload_n 0, 1) := by decide +kernel
theorem d_V_resume_1 : decode b_V_resume 1 = .ok (.getfield 19, 3) := by decide +kernel
theorem d_V_resume_4 : decode b_V_resume 4 = .ok (.getfield 177, 3) := by decide +kernel
theorem d_V_resume_7 : decode b_V_resume 7 = .ok (.ifCond .ne 5, 3) := by decide +kernel
theorem d_V_resume_10 : decode b_V_resume 10 = .ok (.iconst 0, 1) := by decide +kernel
theorem d_V_resume_11 : decode b_V_resume 11 = .ok (.ireturn, 1) := by decide +kernel
theorem d_V_resume_12 : decode b_V_resume 12 = .ok (.aload_n 0, 1) := by decide +kernel
theorem d_V_resume_13 : decode b_V_resume 13 = .ok (.getfield 19, 3) := by decide +kernel
theorem d_V_resume_16 : decode b_V_resume 16 = .ok (.getfield 181, 3) := by decide +kernel
theorem d_V_resume_19 : decode b_V_resume 19 = .ok (.ifCond .ne 13, 3) := by decide +kernel
theorem d_V_resume_22 : decode b_V_resume 22 = .ok (.aload_n 0, 1) := by decide +kernel
theorem d_V_resume_23 : decode b_V_resume 23 = .ok (.getfield 19, 3) := by decide +kernel
theorem d_V_resume_26 : decode b_V_resume 26 = .ok (.iconst 0, 1) := by decide +kernel
theorem d_V_resume_27 : decode b_V_resume 27 = .ok (.putfield 177, 3) := by decide +kernel
theorem d_V_resume_30 : decode b_V_resume 30 = .ok (.iconst 1, 1) := by decide +kernel
theorem d_V_resume_31 : decode b_V_resume 31 = .ok (.ireturn, 1) := by decide +kernel
theorem d_V_resume_32 : decode b_V_resume 32 = .ok (.aload_n 0, 1) := by decide +kernel
theorem d_V_resume_33 : decode b_V_resume 33 = .ok (.getfield 19, 3) := by decide +kernel
theorem d_V_resume_36 : decode b_V_resume 36 = .ok (.invokevirtual 184, 3) := by decide +kernel
theorem d_V_resume_39 : decode b_V_resume 39 = .ok (.iconst 2, 1) := by decide +kernel
theorem d_V_resume_40 : decode b_V_resume 40 = .ok (.ireturn, 1) := by decide +kernel
set_option maxHeartbeats 4000000 in
set_option maxRecDepth 100000 in
theorem c_V_rebuildByte (l : Launch) (D : va_G) (cI cZ cQ : ClassId) (qv : Nat) (qp : Nat) (qr : Nat) (qj : Nat) (qg : Nat) (qs : Nat) (qh : Nat) (qn : Nat) (qu : Nat) (qw : Nat) (qH : Nat) (qF : Nat) (qc : Nat) (ql : Nat) (qf : Nat) (k : Nat) (n : Nat) (pf : Nat) (pn : Nat) (pr : Nat → Int32) (wi : Int32) (M : ms_T) (hf : Int32) (lim : Int32) (nt : Int32) (lt : Int32) (nb : Nat → Int32) (su : Nat → Int32) (wt : Nat → Int32) (ch : Nat → Int32) (le : Nat → Int32) (fl : Nat → Int32) (ep : Int32) (L : List Nat) (hh : Nat → Nat) (ff : Nat → Nat) (rw : Nat → Nat → Int32) (x : Nat) (j : Nat) (xs : Nat → Nat) (sb : Nat → BitVec 8) (wb : Nat → BitVec 8) (hk : k < 2 ^ 20) (hn : n < 2 ^ 20) (hhL : ∀ i, i < n + 1 → hh i ∈ L) (ffL : ∀ i, i < n + 1 → ff i ∈ L) (hj : j < 64) (hx1 : x < n + 1) (hk1 : 1 ≤ k) (hpf : pf < 1000) (hpn : k * (k - 1) ≤ pn) (hxs : ∀ g, g < k → nb g = nI (xs g)) (hxn : ∀ g, g < k → xs g < n + 1) (hsb : ∀ g, g < k → rw (hh (xs g)) j = bI (sb g)) (hwb : ∀ g, g < k → wt g = bI (wb g)) (hT : M.1 + (k * k + k) < 2 ^ 31) : sd_V l D (tyL cI cZ cQ) y_V_rebuildByte b_V_rebuildByte 7 ({ frames := 2, cells := 0, slots := 0, locals := 47 }) [.ref qv, .int (nI x), .int (nI j)] ((vW cI cQ cZ qv qp qr qj qg qs qh qn qu qw qH qF qc ql qf (nI (k)) (nI (n)) (ep) (nI (pf)) (nI (pn)) (1000) (pr) (wi) (M.2.2.2) (hf) (nI M.2.2.1) (lim) (nt) (lt) (nI (M.1)) (192) (M.2.1) (k) (nb) (k) (su) (k) (wt) (n + 1) (fun i => if i < n + 1 then some (hh i) else none) (n + 1) (fun i => if i < n + 1 then some (ff i) else none) (k) (ch) (8) (le) (n + 1) (fl)) ++ va_pl L (rowE cI rw)) ((vW cI cQ cZ qv qp qr qj qg qs qh qn qu qw qH qF qc ql qf (nI (k)) (nI (n)) (ep) (nI (pft pf (rb_o pr pf k nb lim (tm_f sb wb) k (0, ar_f 0 k su, M)).1)) (nI (pn - (rb_o pr pf k nb lim (tm_f sb wb) k (0, ar_f 0 k su, M)).1)) (1000) (pr) (wi) ((rb_e (rb_o pr pf k nb lim (tm_f sb wb) k (0, ar_f 0 k su, M)).2.1 nb lim (nI x) k (0, (rb_o pr pf k nb lim (tm_f sb wb) k (0, ar_f 0 k su, M)).2.2)).2.2.2.2) (hf) (nI (rb_e (rb_o pr pf k nb lim (tm_f sb wb) k (0, ar_f 0 k su, M)).2.1 nb lim (nI x) k (0, (rb_o pr pf k nb lim (tm_f sb wb) k (0, ar_f 0 k su, M)).2.2)).2.2.2.1) (lim) (nt) (lt) (nI ((rb_e (rb_o pr pf k nb lim (tm_f sb wb) k (0, ar_f 0 k su, M)).2.1 nb lim (nI x) k (0, (rb_o pr pf k nb lim (tm_f sb wb) k (0, ar_f 0 k su, M)).2.2)).2.1)) (192) ((rb_e (rb_o pr pf k nb lim (tm_f sb wb) k (0, ar_f 0 k su, M)).2.1 nb lim (nI x) k (0, (rb_o pr pf k nb lim (tm_f sb wb) k (0, ar_f 0 k su, M)).2.2)).2.2.1) (k) (nb) (k) ((rb_o pr pf k nb lim (tm_f sb wb) k (0, ar_f 0 k su, M)).2.1) (k) (wt) (n + 1) (fun i => if i < n + 1 then some (hh i) else none) (n + 1) (fun i => if i < n + 1 then some (ff i) else none) (k) (ch) (8) (le) (n + 1) (fl)) ++ va_pl L (rowE cI (va_up rw (ff x) (upd (rw (ff x)) j (rb_e (rb_o pr pf k nb lim (tm_f sb wb) k (0, ar_f 0 k su, M)).2.1 nb lim (nI x) k (0, (rb_o pr pf k nb lim (tm_f sb wb) k (0, ar_f 0 k su, M)).2.2)).1)))) := by
  refine sd_ofV (by decide) (Nat.le_of_ble_eq_true rfl) ?_
  intro p e s m below meth c A ls hx hb hr hml hlk hown hts hK hP hD hA hS hl
  have hl : lv_has ls 7 [(0, .ref qv), (1, .int (nI x)), (2, .int (nI j))] := hl
  refine lv_aload_n hx hb d_V_rebuildByte_0 rfl (lv_at hl 0 rfl) ?_
  refine va_get (D := D) (ci := 4) (v := .ref qh) (C := R_V) (T := F_V) (N := 11) hx hb hts wl_V hown hK hP 0 rfl rfl 4 (by decide) (hts _ wf_V_51) (fun _ h9 => h9) rfl d_V_rebuildByte_1 ?_
  refine sd_callVV (As := []) (rest := []) (cx := [(qh, .inr (3, [.ref qn, .ref qu, .ref qw])), (qn, .inl (cI, k, .inl (nb))), (qu, .inl (cI, k, .inl (su))), (qw, .inl (cI, k, .inl (wt)))]) (w1 := [(qh, .inr (3, [.ref qn, .ref qu, .ref qw])), (qn, .inl (cI, k, .inl (nb))), (qu, .inl (cI, k, .inl (ar_f 0 k su))), (qw, .inl (cI, k, .inl (wt)))]) (c_H_clearSums l D cI cZ cQ (qh) (qn) (qu) (qw) (k) (nb) (su) (wt) (by omega)) ⟨wc_H_clearSums, wm_V_234, wi_H, by decide, by decide, show (parseMethodDescriptor y_H_clearSums.desc).map (fun d => d.parameters.length) = some 0 by decide +kernel⟩ wo_H_clearSums wz_H_clearSums hx hb hml hown hts hl.1 ⟨Nat.le_of_ble_eq_true rfl, Nat.le_of_ble_eq_true rfl⟩ ⟨Nat.le_of_ble_eq_true rfl, Nat.le_of_ble_eq_true rfl⟩ hK hP hD hS hA [6, 7, 8, 9] rfl (by decide) rfl rfl (q0 := 0) rfl rfl rfl (Nat.le_of_ble_eq_true rfl) d_V_rebuildByte_4 (fun H locs hP hD hS => ?_)
  have hP : va_P D cls ((vW cI cQ cZ qv qp qr qj qg qs qh qn qu qw qH qF qc ql qf (nI (k)) (nI (n)) (ep) (nI (pf)) (nI (pn)) (1000) (pr) (wi) (M.2.2.2) (hf) (nI M.2.2.1) (lim) (nt) (lt) (nI (M.1)) (192) (M.2.1) (k) (nb) (k) (ar_f 0 k su) (k) (wt) (n + 1) (fun i => if i < n + 1 then some (hh i) else none) (n + 1) (fun i => if i < n + 1 then some (ff i) else none) (k) (ch) (8) (le) (n + 1) (fl)) ++ va_pl L (rowE cI rw)) H := hP
  have hD : va_D A ((vW cI cQ cZ qv qp qr qj qg qs qh qn qu qw qH qF qc ql qf (nI (k)) (nI (n)) (ep) (nI (pf)) (nI (pn)) (1000) (pr) (wi) (M.2.2.2) (hf) (nI M.2.2.1) (lim) (nt) (lt) (nI (M.1)) (192) (M.2.1) (k) (nb) (k) (ar_f 0 k su) (k) (wt) (n + 1) (fun i => if i < n + 1 then some (hh i) else none) (n + 1) (fun i => if i < n + 1 then some (ff i) else none) (k) (ch) (8) (le) (n + 1) (fl)) ++ va_pl L (rowE cI rw)) := hD
  refine lv_iconst (v := 0) hx hb d_V_rebuildByte_7 (by decide) ?_
  refine sd_top (y := nI 0) (rfl) ?_
  refine lv_istore_n hx hb d_V_rebuildByte_8 rfl hl (Nat.le_of_ble_eq_true rfl) (lv' := [(3, .int (nI 0)), (0, .ref qv), (1, .int (nI x)), (2, .int (nI j))]) rfl (fun ls hl => ?_)
  have hl := lv_sub hl (l' := [(0, .ref qv), (1, .int (nI x)), (2, .int (nI j)), (3, .int (nI 0))]) [1, 2, 3, 0] rfl
  have loop9 : ∀ (d : Nat) (g : Nat) (ls : Array Slot) (H : Heap) (locs : List Loc), k - g = d → (g ≤ k) → lv_has ls 7 [(0, .ref qv), (1, .int (nI x)), (2, .int (nI j)), (3, .int (nI (g)))] → va_P D cls ((vW cI cQ cZ qv qp qr qj qg qs qh qn qu qw qH qF qc ql qf (nI (k)) (nI (n)) (ep) (nI (pft pf (rb_o pr pf k nb lim (tm_f sb wb) g (0, ar_f 0 k su, M)).1)) (nI (pn - (rb_o pr pf k nb lim (tm_f sb wb) g (0, ar_f 0 k su, M)).1)) (1000) (pr) (wi) ((rb_o pr pf k nb lim (tm_f sb wb) g (0, ar_f 0 k su, M)).2.2.2.2.2) (hf) (nI (rb_o pr pf k nb lim (tm_f sb wb) g (0, ar_f 0 k su, M)).2.2.2.2.1) (lim) (nt) (lt) (nI ((rb_o pr pf k nb lim (tm_f sb wb) g (0, ar_f 0 k su, M)).2.2.1)) (192) ((rb_o pr pf k nb lim (tm_f sb wb) g (0, ar_f 0 k su, M)).2.2.2.1) (k) (nb) (k) ((rb_o pr pf k nb lim (tm_f sb wb) g (0, ar_f 0 k su, M)).2.1) (k) (wt) (n + 1) (fun i => if i < n + 1 then some (hh i) else none) (n + 1) (fun i => if i < n + 1 then some (ff i) else none) (k) (ch) (8) (le) (n + 1) (fl)) ++ va_pl L (rowE cI rw)) H → va_D A ((vW cI cQ cZ qv qp qr qj qg qs qh qn qu qw qH qF qc ql qf (nI (k)) (nI (n)) (ep) (nI (pft pf (rb_o pr pf k nb lim (tm_f sb wb) g (0, ar_f 0 k su, M)).1)) (nI (pn - (rb_o pr pf k nb lim (tm_f sb wb) g (0, ar_f 0 k su, M)).1)) (1000) (pr) (wi) ((rb_o pr pf k nb lim (tm_f sb wb) g (0, ar_f 0 k su, M)).2.2.2.2.2) (hf) (nI (rb_o pr pf k nb lim (tm_f sb wb) g (0, ar_f 0 k su, M)).2.2.2.2.1) (lim) (nt) (lt) (nI ((rb_o pr pf k nb lim (tm_f sb wb) g (0, ar_f 0 k su, M)).2.2.1)) (192) ((rb_o pr pf k nb lim (tm_f sb wb) g (0, ar_f 0 k su, M)).2.2.2.1) (k) (nb) (k) ((rb_o pr pf k nb lim (tm_f sb wb) g (0, ar_f 0 k su, M)).2.1) (k) (wt) (n + 1) (fun i => if i < n + 1 then some (hh i) else none) (n + 1) (fun i => if i < n + 1 then some (ff i) else none) (k) (ch) (8) (le) (n + 1) (fl)) ++ va_pl L (rowE cI rw)) → va_S A s.heap H locs → W p l e ({ frames := 2, cells := 0, slots := 0, locals := 47 }) s m ([.ref qv, .int (nI x), .int (nI j)] : List Value).toArray below meth c H locs 0 0 (MQ below (sd_qv D ((vW cI cQ cZ qv qp qr qj qg qs qh qn qu qw qH qF qc ql qf (nI (k)) (nI (n)) (ep) (nI (pft pf (rb_o pr pf k nb lim (tm_f sb wb) k (0, ar_f 0 k su, M)).1)) (nI (pn - (rb_o pr pf k nb lim (tm_f sb wb) k (0, ar_f 0 k su, M)).1)) (1000) (pr) (wi) ((rb_e (rb_o pr pf k nb lim (tm_f sb wb) k (0, ar_f 0 k su, M)).2.1 nb lim (nI x) k (0, (rb_o pr pf k nb lim (tm_f sb wb) k (0, ar_f 0 k su, M)).2.2)).2.2.2.2) (hf) (nI (rb_e (rb_o pr pf k nb lim (tm_f sb wb) k (0, ar_f 0 k su, M)).2.1 nb lim (nI x) k (0, (rb_o pr pf k nb lim (tm_f sb wb) k (0, ar_f 0 k su, M)).2.2)).2.2.2.1) (lim) (nt) (lt) (nI ((rb_e (rb_o pr pf k nb lim (tm_f sb wb) k (0, ar_f 0 k su, M)).2.1 nb lim (nI x) k (0, (rb_o pr pf k nb lim (tm_f sb wb) k (0, ar_f 0 k su, M)).2.2)).2.1)) (192) ((rb_e (rb_o pr pf k nb lim (tm_f sb wb) k (0, ar_f 0 k su, M)).2.1 nb lim (nI x) k (0, (rb_o pr pf k nb lim (tm_f sb wb) k (0, ar_f 0 k su, M)).2.2)).2.2.1) (k) (nb) (k) ((rb_o pr pf k nb lim (tm_f sb wb) k (0, ar_f 0 k su, M)).2.1) (k) (wt) (n + 1) (fun i => if i < n + 1 then some (hh i) else none) (n + 1) (fun i => if i < n + 1 then some (ff i) else none) (k) (ch) (8) (le) (n + 1) (fl)) ++ va_pl L (rowE cI (va_up rw (ff x) (upd (rw (ff x)) j (rb_e (rb_o pr pf k nb lim (tm_f sb wb) k (0, ar_f 0 k su, M)).2.1 nb lim (nI x) k (0, (rb_o pr pf k nb lim (tm_f sb wb) k (0, ar_f 0 k su, M)).2.2)).1)))) A) ([.ref qv, .int (nI x), .int (nI j)] : List Value).toArray s 0 0 A) (F0 m 9 ls []) := by
    intro d
    induction d using Nat.strongRecOn with
    | _ d ih9 =>
    intro g ls H locs hd hg hl hP hD hS
    subst hd
    refine lv_iload_n hx hb d_V_rebuildByte_9 rfl (lv_at hl 3 rfl) ?_
    refine lv_aload_n hx hb d_V_rebuildByte_10 rfl (lv_at hl 0 rfl) ?_
    refine va_get (D := D) (ci := 4) (v := .int (nI (k))) (C := R_V) (T := F_V) (N := 11) hx hb hts wl_V hown hK hP 0 rfl rfl 0 (by decide) (hts _ wf_V_43) (fun _ h9 => h9) rfl d_V_rebuildByte_11 ?_
    refine lv_icmp_ge (tgt := 132) hx hb d_V_rebuildByte_14 rfl (fun hc14 => ?_) (fun hc14 => ?_)
    · skip
      rw [nI_leI (by omega) (by omega)] at hc14
      have hgk : k = g := by omega
      subst hgk
      refine lv_iconst (v := 0) hx hb d_V_rebuildByte_132 (by decide) ?_
      refine lv_istore_n hx hb d_V_rebuildByte_133 rfl hl (Nat.le_of_ble_eq_true rfl) (lv' := [(3, .int (0)), (0, .ref qv), (1, .int (nI x)), (2, .int (nI j))]) rfl (fun ls hl => ?_)
      refine lv_iconst (v := 0) hx hb d_V_rebuildByte_134 (by decide) ?_
      refine sd_top (y := nI 0) (rfl) ?_
      refine lv_istore hx hb d_V_rebuildByte_135 hl (Nat.le_of_ble_eq_true rfl) (lv' := [(4, .int (nI 0)), (3, .int (0)), (0, .ref qv), (1, .int (nI x)), (2, .int (nI j))]) rfl (fun ls hl => ?_)
      have hl := lv_sub hl (l' := [(0, .ref qv), (1, .int (nI x)), (2, .int (nI j)), (3, .int (0)), (4, .int (nI 0))]) [2, 3, 4, 1, 0] rfl
      have loop137 : ∀ (d : Nat) (h : Nat) (ls : Array Slot) (H : Heap) (locs : List Loc), k - h = d → (h ≤ k) → lv_has ls 7 [(0, .ref qv), (1, .int (nI x)), (2, .int (nI j)), (3, .int ((rb_e (rb_o pr pf k nb lim (tm_f sb wb) k (0, ar_f 0 k su, M)).2.1 nb lim (nI x) h (0, (rb_o pr pf k nb lim (tm_f sb wb) k (0, ar_f 0 k su, M)).2.2)).1)), (4, .int (nI (h)))] → va_P D cls ((vW cI cQ cZ qv qp qr qj qg qs qh qn qu qw qH qF qc ql qf (nI (k)) (nI (n)) (ep) (nI (pft pf (rb_o pr pf k nb lim (tm_f sb wb) k (0, ar_f 0 k su, M)).1)) (nI (pn - (rb_o pr pf k nb lim (tm_f sb wb) k (0, ar_f 0 k su, M)).1)) (1000) (pr) (wi) ((rb_e (rb_o pr pf k nb lim (tm_f sb wb) k (0, ar_f 0 k su, M)).2.1 nb lim (nI x) h (0, (rb_o pr pf k nb lim (tm_f sb wb) k (0, ar_f 0 k su, M)).2.2)).2.2.2.2) (hf) (nI (rb_e (rb_o pr pf k nb lim (tm_f sb wb) k (0, ar_f 0 k su, M)).2.1 nb lim (nI x) h (0, (rb_o pr pf k nb lim (tm_f sb wb) k (0, ar_f 0 k su, M)).2.2)).2.2.2.1) (lim) (nt) (lt) (nI ((rb_e (rb_o pr pf k nb lim (tm_f sb wb) k (0, ar_f 0 k su, M)).2.1 nb lim (nI x) h (0, (rb_o pr pf k nb lim (tm_f sb wb) k (0, ar_f 0 k su, M)).2.2)).2.1)) (192) ((rb_e (rb_o pr pf k nb lim (tm_f sb wb) k (0, ar_f 0 k su, M)).2.1 nb lim (nI x) h (0, (rb_o pr pf k nb lim (tm_f sb wb) k (0, ar_f 0 k su, M)).2.2)).2.2.1) (k) (nb) (k) ((rb_o pr pf k nb lim (tm_f sb wb) k (0, ar_f 0 k su, M)).2.1) (k) (wt) (n + 1) (fun i => if i < n + 1 then some (hh i) else none) (n + 1) (fun i => if i < n + 1 then some (ff i) else none) (k) (ch) (8) (le) (n + 1) (fl)) ++ va_pl L (rowE cI rw)) H → va_D A ((vW cI cQ cZ qv qp qr qj qg qs qh qn qu qw qH qF qc ql qf (nI (k)) (nI (n)) (ep) (nI (pft pf (rb_o pr pf k nb lim (tm_f sb wb) k (0, ar_f 0 k su, M)).1)) (nI (pn - (rb_o pr pf k nb lim (tm_f sb wb) k (0, ar_f 0 k su, M)).1)) (1000) (pr) (wi) ((rb_e (rb_o pr pf k nb lim (tm_f sb wb) k (0, ar_f 0 k su, M)).2.1 nb lim (nI x) h (0, (rb_o pr pf k nb lim (tm_f sb wb) k (0, ar_f 0 k su, M)).2.2)).2.2.2.2) (hf) (nI (rb_e (rb_o pr pf k nb lim (tm_f sb wb) k (0, ar_f 0 k su, M)).2.1 nb lim (nI x) h (0, (rb_o pr pf k nb lim (tm_f sb wb) k (0, ar_f 0 k su, M)).2.2)).2.2.2.1) (lim) (nt) (lt) (nI ((rb_e (rb_o pr pf k nb lim (tm_f sb wb) k (0, ar_f 0 k su, M)).2.1 nb lim (nI x) h (0, (rb_o pr pf k nb lim (tm_f sb wb) k (0, ar_f 0 k su, M)).2.2)).2.1)) (192) ((rb_e (rb_o pr pf k nb lim (tm_f sb wb) k (0, ar_f 0 k su, M)).2.1 nb lim (nI x) h (0, (rb_o pr pf k nb lim (tm_f sb wb) k (0, ar_f 0 k su, M)).2.2)).2.2.1) (k) (nb) (k) ((rb_o pr pf k nb lim (tm_f sb wb) k (0, ar_f 0 k su, M)).2.1) (k) (wt) (n + 1) (fun i => if i < n + 1 then some (hh i) else none) (n + 1) (fun i => if i < n + 1 then some (ff i) else none) (k) (ch) (8) (le) (n + 1) (fl)) ++ va_pl L (rowE cI rw)) → va_S A s.heap H locs → W p l e ({ frames := 2, cells := 0, slots := 0, locals := 47 }) s m ([.ref qv, .int (nI x), .int (nI j)] : List Value).toArray below meth c H locs 0 0 (MQ below (sd_qv D ((vW cI cQ cZ qv qp qr qj qg qs qh qn qu qw qH qF qc ql qf (nI (k)) (nI (n)) (ep) (nI (pft pf (rb_o pr pf k nb lim (tm_f sb wb) k (0, ar_f 0 k su, M)).1)) (nI (pn - (rb_o pr pf k nb lim (tm_f sb wb) k (0, ar_f 0 k su, M)).1)) (1000) (pr) (wi) ((rb_e (rb_o pr pf k nb lim (tm_f sb wb) k (0, ar_f 0 k su, M)).2.1 nb lim (nI x) k (0, (rb_o pr pf k nb lim (tm_f sb wb) k (0, ar_f 0 k su, M)).2.2)).2.2.2.2) (hf) (nI (rb_e (rb_o pr pf k nb lim (tm_f sb wb) k (0, ar_f 0 k su, M)).2.1 nb lim (nI x) k (0, (rb_o pr pf k nb lim (tm_f sb wb) k (0, ar_f 0 k su, M)).2.2)).2.2.2.1) (lim) (nt) (lt) (nI ((rb_e (rb_o pr pf k nb lim (tm_f sb wb) k (0, ar_f 0 k su, M)).2.1 nb lim (nI x) k (0, (rb_o pr pf k nb lim (tm_f sb wb) k (0, ar_f 0 k su, M)).2.2)).2.1)) (192) ((rb_e (rb_o pr pf k nb lim (tm_f sb wb) k (0, ar_f 0 k su, M)).2.1 nb lim (nI x) k (0, (rb_o pr pf k nb lim (tm_f sb wb) k (0, ar_f 0 k su, M)).2.2)).2.2.1) (k) (nb) (k) ((rb_o pr pf k nb lim (tm_f sb wb) k (0, ar_f 0 k su, M)).2.1) (k) (wt) (n + 1) (fun i => if i < n + 1 then some (hh i) else none) (n + 1) (fun i => if i < n + 1 then some (ff i) else none) (k) (ch) (8) (le) (n + 1) (fl)) ++ va_pl L (rowE cI (va_up rw (ff x) (upd (rw (ff x)) j (rb_e (rb_o pr pf k nb lim (tm_f sb wb) k (0, ar_f 0 k su, M)).2.1 nb lim (nI x) k (0, (rb_o pr pf k nb lim (tm_f sb wb) k (0, ar_f 0 k su, M)).2.2)).1)))) A) ([.ref qv, .int (nI x), .int (nI j)] : List Value).toArray s 0 0 A) (F0 m 137 ls []) := by
        intro d
        induction d using Nat.strongRecOn with
        | _ d ih137 =>
        intro h ls H locs hd hh9 hl hP hD hS
        subst hd
        refine lv_iload hx hb d_V_rebuildByte_137 (lv_at hl 4 rfl) ?_
        refine lv_aload_n hx hb d_V_rebuildByte_139 rfl (lv_at hl 0 rfl) ?_
        refine va_get (D := D) (ci := 4) (v := .int (nI (k))) (C := R_V) (T := F_V) (N := 11) hx hb hts wl_V hown hK hP 0 rfl rfl 0 (by decide) (hts _ wf_V_43) (fun _ h9 => h9) rfl d_V_rebuildByte_140 ?_
        refine lv_icmp_ge (tgt := 194) hx hb d_V_rebuildByte_143 rfl (fun hc143 => ?_) (fun hc143 => ?_)
        · skip
          rw [nI_leI (by omega) (by omega)] at hc143
          have hhk : k = h := by omega
          subst hhk
          refine lv_aload_n hx hb d_V_rebuildByte_194 rfl (lv_at hl 0 rfl) ?_
          refine va_get (D := D) (ci := 4) (v := .ref qF) (C := R_V) (T := F_V) (N := 11) hx hb hts wl_V hown hK hP 0 rfl rfl 6 (by decide) (hts _ wf_V_60) (fun _ h9 => h9) rfl d_V_rebuildByte_195 ?_
          refine lv_iload_n hx hb d_V_rebuildByte_198 rfl (lv_at hl 1 rfl) ?_
          refine sd_aald (j := x) (z := ff (x)) hx hb hK hP 11 2 rfl rfl (by omega) (by omega) (if_pos (by omega)) d_V_rebuildByte_199 ?_
          refine lv_iload_n hx hb d_V_rebuildByte_200 rfl (lv_at hl 2 rfl) ?_
          refine lv_iload_n hx hb d_V_rebuildByte_201 rfl (lv_at hl 3 rfl) ?_
          refine sd_rst (z := ff (x)) (j := j) hx hb hK hP hD hS (ffL (x) (by omega)) 0 rfl (by omega) d_V_rebuildByte_202 (fun H locs hP hD hS => ?_)
          have hP : va_P D cls ((vW cI cQ cZ qv qp qr qj qg qs qh qn qu qw qH qF qc ql qf (nI (k)) (nI (n)) (ep) (nI (pft pf (rb_o pr pf k nb lim (tm_f sb wb) k (0, ar_f 0 k su, M)).1)) (nI (pn - (rb_o pr pf k nb lim (tm_f sb wb) k (0, ar_f 0 k su, M)).1)) (1000) (pr) (wi) ((rb_e (rb_o pr pf k nb lim (tm_f sb wb) k (0, ar_f 0 k su, M)).2.1 nb lim (nI x) k (0, (rb_o pr pf k nb lim (tm_f sb wb) k (0, ar_f 0 k su, M)).2.2)).2.2.2.2) (hf) (nI (rb_e (rb_o pr pf k nb lim (tm_f sb wb) k (0, ar_f 0 k su, M)).2.1 nb lim (nI x) k (0, (rb_o pr pf k nb lim (tm_f sb wb) k (0, ar_f 0 k su, M)).2.2)).2.2.2.1) (lim) (nt) (lt) (nI ((rb_e (rb_o pr pf k nb lim (tm_f sb wb) k (0, ar_f 0 k su, M)).2.1 nb lim (nI x) k (0, (rb_o pr pf k nb lim (tm_f sb wb) k (0, ar_f 0 k su, M)).2.2)).2.1)) (192) ((rb_e (rb_o pr pf k nb lim (tm_f sb wb) k (0, ar_f 0 k su, M)).2.1 nb lim (nI x) k (0, (rb_o pr pf k nb lim (tm_f sb wb) k (0, ar_f 0 k su, M)).2.2)).2.2.1) (k) (nb) (k) ((rb_o pr pf k nb lim (tm_f sb wb) k (0, ar_f 0 k su, M)).2.1) (k) (wt) (n + 1) (fun i => if i < n + 1 then some (hh i) else none) (n + 1) (fun i => if i < n + 1 then some (ff i) else none) (k) (ch) (8) (le) (n + 1) (fl)) ++ va_pl L (rowE cI (va_up rw (ff (x)) (upd (rw (ff (x))) (j) ((rb_e (rb_o pr pf k nb lim (tm_f sb wb) k (0, ar_f 0 k su, M)).2.1 nb lim (nI x) k (0, (rb_o pr pf k nb lim (tm_f sb wb) k (0, ar_f 0 k su, M)).2.2)).1))))) H := hP
          have hD : va_D A ((vW cI cQ cZ qv qp qr qj qg qs qh qn qu qw qH qF qc ql qf (nI (k)) (nI (n)) (ep) (nI (pft pf (rb_o pr pf k nb lim (tm_f sb wb) k (0, ar_f 0 k su, M)).1)) (nI (pn - (rb_o pr pf k nb lim (tm_f sb wb) k (0, ar_f 0 k su, M)).1)) (1000) (pr) (wi) ((rb_e (rb_o pr pf k nb lim (tm_f sb wb) k (0, ar_f 0 k su, M)).2.1 nb lim (nI x) k (0, (rb_o pr pf k nb lim (tm_f sb wb) k (0, ar_f 0 k su, M)).2.2)).2.2.2.2) (hf) (nI (rb_e (rb_o pr pf k nb lim (tm_f sb wb) k (0, ar_f 0 k su, M)).2.1 nb lim (nI x) k (0, (rb_o pr pf k nb lim (tm_f sb wb) k (0, ar_f 0 k su, M)).2.2)).2.2.2.1) (lim) (nt) (lt) (nI ((rb_e (rb_o pr pf k nb lim (tm_f sb wb) k (0, ar_f 0 k su, M)).2.1 nb lim (nI x) k (0, (rb_o pr pf k nb lim (tm_f sb wb) k (0, ar_f 0 k su, M)).2.2)).2.1)) (192) ((rb_e (rb_o pr pf k nb lim (tm_f sb wb) k (0, ar_f 0 k su, M)).2.1 nb lim (nI x) k (0, (rb_o pr pf k nb lim (tm_f sb wb) k (0, ar_f 0 k su, M)).2.2)).2.2.1) (k) (nb) (k) ((rb_o pr pf k nb lim (tm_f sb wb) k (0, ar_f 0 k su, M)).2.1) (k) (wt) (n + 1) (fun i => if i < n + 1 then some (hh i) else none) (n + 1) (fun i => if i < n + 1 then some (ff i) else none) (k) (ch) (8) (le) (n + 1) (fl)) ++ va_pl L (rowE cI (va_up rw (ff (x)) (upd (rw (ff (x))) (j) ((rb_e (rb_o pr pf k nb lim (tm_f sb wb) k (0, ar_f 0 k su, M)).2.1 nb lim (nI x) k (0, (rb_o pr pf k nb lim (tm_f sb wb) k (0, ar_f 0 k su, M)).2.2)).1))))) := hD
          have hP : va_P D cls ((vW cI cQ cZ qv qp qr qj qg qs qh qn qu qw qH qF qc ql qf (nI (k)) (nI (n)) (ep) (nI (pft pf (rb_o pr pf k nb lim (tm_f sb wb) k (0, ar_f 0 k su, M)).1)) (nI (pn - (rb_o pr pf k nb lim (tm_f sb wb) k (0, ar_f 0 k su, M)).1)) (1000) (pr) (wi) ((rb_e (rb_o pr pf k nb lim (tm_f sb wb) k (0, ar_f 0 k su, M)).2.1 nb lim (nI x) k (0, (rb_o pr pf k nb lim (tm_f sb wb) k (0, ar_f 0 k su, M)).2.2)).2.2.2.2) (hf) (nI (rb_e (rb_o pr pf k nb lim (tm_f sb wb) k (0, ar_f 0 k su, M)).2.1 nb lim (nI x) k (0, (rb_o pr pf k nb lim (tm_f sb wb) k (0, ar_f 0 k su, M)).2.2)).2.2.2.1) (lim) (nt) (lt) (nI ((rb_e (rb_o pr pf k nb lim (tm_f sb wb) k (0, ar_f 0 k su, M)).2.1 nb lim (nI x) k (0, (rb_o pr pf k nb lim (tm_f sb wb) k (0, ar_f 0 k su, M)).2.2)).2.1)) (192) ((rb_e (rb_o pr pf k nb lim (tm_f sb wb) k (0, ar_f 0 k su, M)).2.1 nb lim (nI x) k (0, (rb_o pr pf k nb lim (tm_f sb wb) k (0, ar_f 0 k su, M)).2.2)).2.2.1) (k) (nb) (k) ((rb_o pr pf k nb lim (tm_f sb wb) k (0, ar_f 0 k su, M)).2.1) (k) (wt) (n + 1) (fun i => if i < n + 1 then some (hh i) else none) (n + 1) (fun i => if i < n + 1 then some (ff i) else none) (k) (ch) (8) (le) (n + 1) (fl)) ++ va_pl L (rowE cI (va_up rw (ff x) (upd (rw (ff x)) j (rb_e (rb_o pr pf k nb lim (tm_f sb wb) k (0, ar_f 0 k su, M)).2.1 nb lim (nI x) k (0, (rb_o pr pf k nb lim (tm_f sb wb) k (0, ar_f 0 k su, M)).2.2)).1)))) H := hP
          exact sd_vret hx hb hr hlk hP hS (Nat.le_of_ble_eq_true rfl) (Nat.le_of_ble_eq_true rfl) d_V_rebuildByte_203
        · skip
          rw [nI_leI (by omega) (by omega)] at hc143
          have hO2 : (rb_o pr pf k nb lim (tm_f sb wb) k (0, ar_f 0 k su, M)).2.2.1 ≤ M.1 + k * k := rb_o2 pr pf k nb lim (tm_f sb wb) k (0, ar_f 0 k su, M)
          have hE := rb_e2 (rb_o pr pf k nb lim (tm_f sb wb) k (0, ar_f 0 k su, M)).2.1 nb lim (nI x) h (0, (rb_o pr pf k nb lim (tm_f sb wb) k (0, ar_f 0 k su, M)).2.2)
          dsimp only at hE
          have hTe : (rb_e (rb_o pr pf k nb lim (tm_f sb wb) k (0, ar_f 0 k su, M)).2.1 nb lim (nI x) h (0, (rb_o pr pf k nb lim (tm_f sb wb) k (0, ar_f 0 k su, M)).2.2)).2.1 < 2 ^ 31 := by omega
          refine lv_iload_n hx hb d_V_rebuildByte_146 rfl (lv_at hl 3 rfl) ?_
          refine lv_aload_n hx hb d_V_rebuildByte_147 rfl (lv_at hl 0 rfl) ?_
          refine va_get (D := D) (ci := 4) (v := .ref qh) (C := R_V) (T := F_V) (N := 11) hx hb hts wl_V hown hK hP 0 rfl rfl 4 (by decide) (hts _ wf_V_51) (fun _ h9 => h9) rfl d_V_rebuildByte_148 ?_
          refine va_get (D := D) (ci := 3) (v := .ref qu) (C := R_H) (T := F_H) (N := 3) hx hb hts wl_H hown hK hP 6 rfl rfl 1 (by decide) (hts _ wf_V_241) (fun _ h9 => h9) rfl d_V_rebuildByte_151 ?_
          refine lv_iload hx hb d_V_rebuildByte_154 (lv_at hl 4 rfl) ?_
          refine sd_iald (j := h) hx hb hK hP 8 0 rfl rfl (by omega) (by omega) d_V_rebuildByte_156 ?_
          refine lv_ixor hx hb d_V_rebuildByte_157 ?_
          refine lv_istore_n hx hb d_V_rebuildByte_158 rfl hl (Nat.le_of_ble_eq_true rfl) (lv' := [(3, .int (((rb_e (rb_o pr pf k nb lim (tm_f sb wb) k (0, ar_f 0 k su, M)).2.1 nb lim (nI x) h (0, (rb_o pr pf k nb lim (tm_f sb wb) k (0, ar_f 0 k su, M)).2.2)).1) ^^^ (((rb_o pr pf k nb lim (tm_f sb wb) k (0, ar_f 0 k su, M)).2.1) (h)))), (0, .ref qv), (1, .int (nI x)), (2, .int (nI j)), (4, .int (nI (h)))]) rfl (fun ls hl => ?_)
          refine lv_aload_n hx hb d_V_rebuildByte_159 rfl (lv_at hl 1 rfl) ?_
          refine va_get (D := D) (ci := 4) (v := .ref qj) (C := R_V) (T := F_V) (N := 11) hx hb hts wl_V hown hK hP 0 rfl rfl 3 (by decide) (hts _ wf_V_19) (fun _ h9 => h9) rfl d_V_rebuildByte_160 ?_
          refine lv_aload_n hx hb d_V_rebuildByte_163 rfl (lv_at hl 1 rfl) ?_
          refine va_get (D := D) (ci := 4) (v := .ref qh) (C := R_V) (T := F_V) (N := 11) hx hb hts wl_V hown hK hP 0 rfl rfl 4 (by decide) (hts _ wf_V_51) (fun _ h9 => h9) rfl d_V_rebuildByte_164 ?_
          refine va_get (D := D) (ci := 3) (v := .ref qn) (C := R_H) (T := F_H) (N := 3) hx hb hts wl_H hown hK hP 6 rfl rfl 0 (by decide) (hts _ wf_V_244) (fun _ h9 => h9) rfl d_V_rebuildByte_167 ?_
          refine lv_iload hx hb d_V_rebuildByte_170 (lv_at hl 4 rfl) ?_
          refine sd_iald (j := h) hx hb hK hP 7 0 rfl rfl (by omega) (by omega) d_V_rebuildByte_172 ?_
          refine lv_iload_n hx hb d_V_rebuildByte_173 rfl (lv_at hl 2 rfl) ?_
          refine lv_aload_n hx hb d_V_rebuildByte_174 rfl (lv_at hl 1 rfl) ?_
          refine va_get (D := D) (ci := 4) (v := .ref qh) (C := R_V) (T := F_V) (N := 11) hx hb hts wl_V hown hK hP 0 rfl rfl 4 (by decide) (hts _ wf_V_51) (fun _ h9 => h9) rfl d_V_rebuildByte_175 ?_
          refine va_get (D := D) (ci := 3) (v := .ref qu) (C := R_H) (T := F_H) (N := 3) hx hb hts wl_H hown hK hP 6 rfl rfl 1 (by decide) (hts _ wf_V_241) (fun _ h9 => h9) rfl d_V_rebuildByte_178 ?_
          refine lv_iload hx hb d_V_rebuildByte_181 (lv_at hl 4 rfl) ?_
          refine sd_iald (j := h) hx hb hK hP 8 0 rfl rfl (by omega) (by omega) d_V_rebuildByte_183 ?_
          refine sd_callVI (As := [.int (nb (h)), .int (nI x), .int ((rb_o pr pf k nb lim (tm_f sb wb) k (0, ar_f 0 k su, M)).2.1 (h))]) (rest := []) (cx := [(qj, .inr (2, [.ref qg, .int (wi), .int (((rb_e (rb_o pr pf k nb lim (tm_f sb wb) k (0, ar_f 0 k su, M)).2.1 nb lim (nI x) h (0, (rb_o pr pf k nb lim (tm_f sb wb) k (0, ar_f 0 k su, M)).2.2)).2).2.2.2), .int (hf), .int (nI ((rb_e (rb_o pr pf k nb lim (tm_f sb wb) k (0, ar_f 0 k su, M)).2.1 nb lim (nI x) h (0, (rb_o pr pf k nb lim (tm_f sb wb) k (0, ar_f 0 k su, M)).2.2)).2).2.2.1), .int (lim), .int (nt), .int (lt)])), (qg, .inr (1, [.ref qs, .int (nI (((rb_e (rb_o pr pf k nb lim (tm_f sb wb) k (0, ar_f 0 k su, M)).2.1 nb lim (nI x) h (0, (rb_o pr pf k nb lim (tm_f sb wb) k (0, ar_f 0 k su, M)).2.2)).2).1))])), (qs, .inl (cI, 192, .inl (((rb_e (rb_o pr pf k nb lim (tm_f sb wb) k (0, ar_f 0 k su, M)).2.1 nb lim (nI x) h (0, (rb_o pr pf k nb lim (tm_f sb wb) k (0, ar_f 0 k su, M)).2.2)).2).2.1)))]) (w1 := [(qj, .inr (2, [.ref qg, .int (wi), .int ((ms_s lim ((rb_e (rb_o pr pf k nb lim (tm_f sb wb) k (0, ar_f 0 k su, M)).2.1 nb lim (nI x) h (0, (rb_o pr pf k nb lim (tm_f sb wb) k (0, ar_f 0 k su, M)).2.2)).2) (nb (h)) (nI x) ((rb_o pr pf k nb lim (tm_f sb wb) k (0, ar_f 0 k su, M)).2.1 (h))).2.2.2), .int (hf), .int (nI (ms_s lim ((rb_e (rb_o pr pf k nb lim (tm_f sb wb) k (0, ar_f 0 k su, M)).2.1 nb lim (nI x) h (0, (rb_o pr pf k nb lim (tm_f sb wb) k (0, ar_f 0 k su, M)).2.2)).2) (nb (h)) (nI x) ((rb_o pr pf k nb lim (tm_f sb wb) k (0, ar_f 0 k su, M)).2.1 (h))).2.2.1), .int (lim), .int (nt), .int (lt)])), (qg, .inr (1, [.ref qs, .int (nI ((ms_s lim ((rb_e (rb_o pr pf k nb lim (tm_f sb wb) k (0, ar_f 0 k su, M)).2.1 nb lim (nI x) h (0, (rb_o pr pf k nb lim (tm_f sb wb) k (0, ar_f 0 k su, M)).2.2)).2) (nb (h)) (nI x) ((rb_o pr pf k nb lim (tm_f sb wb) k (0, ar_f 0 k su, M)).2.1 (h))).1))])), (qs, .inl (cI, 192, .inl ((ms_s lim ((rb_e (rb_o pr pf k nb lim (tm_f sb wb) k (0, ar_f 0 k su, M)).2.1 nb lim (nI x) h (0, (rb_o pr pf k nb lim (tm_f sb wb) k (0, ar_f 0 k su, M)).2.2)).2) (nb (h)) (nI x) ((rb_o pr pf k nb lim (tm_f sb wb) k (0, ar_f 0 k su, M)).2.1 (h))).2.1)))]) (c_J_send l D cI cZ cQ (qj) (qg) (qs) (wi) ((rb_e (rb_o pr pf k nb lim (tm_f sb wb) k (0, ar_f 0 k su, M)).2.1 nb lim (nI x) h (0, (rb_o pr pf k nb lim (tm_f sb wb) k (0, ar_f 0 k su, M)).2.2)).2) (hf) (lim) (nt) (lt) (nb (h)) (nI x) ((rb_o pr pf k nb lim (tm_f sb wb) k (0, ar_f 0 k su, M)).2.1 (h)) (hTe)) ⟨wc_J_send, wm_V_230, wi_J, by decide, by decide, show (parseMethodDescriptor y_J_send.desc).map (fun d => d.parameters.length) = some 3 by decide +kernel⟩ wo_J_send wz_J_send hx hb hml hown hts hl.1 ⟨Nat.le_of_ble_eq_true rfl, Nat.le_of_ble_eq_true rfl⟩ ⟨Nat.le_of_ble_eq_true rfl, Nat.le_of_ble_eq_true rfl⟩ hK hP hD hS hA [3, 4, 5] rfl (by decide) rfl rfl (q0 := 0) rfl rfl rfl (Nat.le_of_ble_eq_true rfl) d_V_rebuildByte_184 (fun H locs hP hD hS => ?_)
          have hP : va_P D cls ((vW cI cQ cZ qv qp qr qj qg qs qh qn qu qw qH qF qc ql qf (nI (k)) (nI (n)) (ep) (nI (pft pf (rb_o pr pf k nb lim (tm_f sb wb) k (0, ar_f 0 k su, M)).1)) (nI (pn - (rb_o pr pf k nb lim (tm_f sb wb) k (0, ar_f 0 k su, M)).1)) (1000) (pr) (wi) ((ms_s lim ((rb_e (rb_o pr pf k nb lim (tm_f sb wb) k (0, ar_f 0 k su, M)).2.1 nb lim (nI x) h (0, (rb_o pr pf k nb lim (tm_f sb wb) k (0, ar_f 0 k su, M)).2.2)).2) (nb (h)) (nI x) ((rb_o pr pf k nb lim (tm_f sb wb) k (0, ar_f 0 k su, M)).2.1 (h))).2.2.2) (hf) (nI (ms_s lim ((rb_e (rb_o pr pf k nb lim (tm_f sb wb) k (0, ar_f 0 k su, M)).2.1 nb lim (nI x) h (0, (rb_o pr pf k nb lim (tm_f sb wb) k (0, ar_f 0 k su, M)).2.2)).2) (nb (h)) (nI x) ((rb_o pr pf k nb lim (tm_f sb wb) k (0, ar_f 0 k su, M)).2.1 (h))).2.2.1) (lim) (nt) (lt) (nI ((ms_s lim ((rb_e (rb_o pr pf k nb lim (tm_f sb wb) k (0, ar_f 0 k su, M)).2.1 nb lim (nI x) h (0, (rb_o pr pf k nb lim (tm_f sb wb) k (0, ar_f 0 k su, M)).2.2)).2) (nb (h)) (nI x) ((rb_o pr pf k nb lim (tm_f sb wb) k (0, ar_f 0 k su, M)).2.1 (h))).1)) (192) ((ms_s lim ((rb_e (rb_o pr pf k nb lim (tm_f sb wb) k (0, ar_f 0 k su, M)).2.1 nb lim (nI x) h (0, (rb_o pr pf k nb lim (tm_f sb wb) k (0, ar_f 0 k su, M)).2.2)).2) (nb (h)) (nI x) ((rb_o pr pf k nb lim (tm_f sb wb) k (0, ar_f 0 k su, M)).2.1 (h))).2.1) (k) (nb) (k) ((rb_o pr pf k nb lim (tm_f sb wb) k (0, ar_f 0 k su, M)).2.1) (k) (wt) (n + 1) (fun i => if i < n + 1 then some (hh i) else none) (n + 1) (fun i => if i < n + 1 then some (ff i) else none) (k) (ch) (8) (le) (n + 1) (fl)) ++ va_pl L (rowE cI rw)) H := hP
          have hD : va_D A ((vW cI cQ cZ qv qp qr qj qg qs qh qn qu qw qH qF qc ql qf (nI (k)) (nI (n)) (ep) (nI (pft pf (rb_o pr pf k nb lim (tm_f sb wb) k (0, ar_f 0 k su, M)).1)) (nI (pn - (rb_o pr pf k nb lim (tm_f sb wb) k (0, ar_f 0 k su, M)).1)) (1000) (pr) (wi) ((ms_s lim ((rb_e (rb_o pr pf k nb lim (tm_f sb wb) k (0, ar_f 0 k su, M)).2.1 nb lim (nI x) h (0, (rb_o pr pf k nb lim (tm_f sb wb) k (0, ar_f 0 k su, M)).2.2)).2) (nb (h)) (nI x) ((rb_o pr pf k nb lim (tm_f sb wb) k (0, ar_f 0 k su, M)).2.1 (h))).2.2.2) (hf) (nI (ms_s lim ((rb_e (rb_o pr pf k nb lim (tm_f sb wb) k (0, ar_f 0 k su, M)).2.1 nb lim (nI x) h (0, (rb_o pr pf k nb lim (tm_f sb wb) k (0, ar_f 0 k su, M)).2.2)).2) (nb (h)) (nI x) ((rb_o pr pf k nb lim (tm_f sb wb) k (0, ar_f 0 k su, M)).2.1 (h))).2.2.1) (lim) (nt) (lt) (nI ((ms_s lim ((rb_e (rb_o pr pf k nb lim (tm_f sb wb) k (0, ar_f 0 k su, M)).2.1 nb lim (nI x) h (0, (rb_o pr pf k nb lim (tm_f sb wb) k (0, ar_f 0 k su, M)).2.2)).2) (nb (h)) (nI x) ((rb_o pr pf k nb lim (tm_f sb wb) k (0, ar_f 0 k su, M)).2.1 (h))).1)) (192) ((ms_s lim ((rb_e (rb_o pr pf k nb lim (tm_f sb wb) k (0, ar_f 0 k su, M)).2.1 nb lim (nI x) h (0, (rb_o pr pf k nb lim (tm_f sb wb) k (0, ar_f 0 k su, M)).2.2)).2) (nb (h)) (nI x) ((rb_o pr pf k nb lim (tm_f sb wb) k (0, ar_f 0 k su, M)).2.1 (h))).2.1) (k) (nb) (k) ((rb_o pr pf k nb lim (tm_f sb wb) k (0, ar_f 0 k su, M)).2.1) (k) (wt) (n + 1) (fun i => if i < n + 1 then some (hh i) else none) (n + 1) (fun i => if i < n + 1 then some (ff i) else none) (k) (ch) (8) (le) (n + 1) (fl)) ++ va_pl L (rowE cI rw)) := hD
          refine lv_pop hx hb d_V_rebuildByte_187 rfl ?_
          refine lv_iinc hx hb d_V_rebuildByte_188 hl (k := 4) rfl (v := nI (h + 1)) (ii_1 _) (Nat.le_of_ble_eq_true rfl) (lv' := [(4, .int (nI (h + 1))), (3, .int (((rb_e (rb_o pr pf k nb lim (tm_f sb wb) k (0, ar_f 0 k su, M)).2.1 nb lim (nI x) h (0, (rb_o pr pf k nb lim (tm_f sb wb) k (0, ar_f 0 k su, M)).2.2)).1) ^^^ (((rb_o pr pf k nb lim (tm_f sb wb) k (0, ar_f 0 k su, M)).2.1) (h)))), (0, .ref qv), (1, .int (nI x)), (2, .int (nI j))]) rfl (fun ls hl => ?_)
          refine lv_goto (tgt := 137) hx hb d_V_rebuildByte_191 rfl ?_
          have hl := lv_sub hl (l' := [(0, .ref qv), (1, .int (nI x)), (2, .int (nI j)), (3, .int (((rb_e (rb_o pr pf k nb lim (tm_f sb wb) k (0, ar_f 0 k su, M)).2.1 nb lim (nI x) h (0, (rb_o pr pf k nb lim (tm_f sb wb) k (0, ar_f 0 k su, M)).2.2)).1) ^^^ (((rb_o pr pf k nb lim (tm_f sb wb) k (0, ar_f 0 k su, M)).2.1) (h)))), (4, .int (nI (h + 1)))]) [2, 3, 4, 1, 0] rfl
          exact ih137 _ (by omega) (h + 1) ls _ _ rfl (by omega) hl hP hD hS
      exact loop137 _ (0) ls _ _ rfl (Nat.zero_le _) hl hP hD hS
    · skip
      rw [nI_leI (by omega) (by omega)] at hc14
      have hgk : g < k := by omega
      have hO1 : (rb_o pr pf k nb lim (tm_f sb wb) g (0, ar_f 0 k su, M)).1 = g * (k - 1) := rb_o1 pr pf k nb lim (tm_f sb wb) g (ar_f 0 k su) M
      have hO2 : (rb_o pr pf k nb lim (tm_f sb wb) g (0, ar_f 0 k su, M)).2.2.1 ≤ M.1 + g * k := rb_o2 pr pf k nb lim (tm_f sb wb) g (0, ar_f 0 k su, M)
      have hm1 : (g + 1) * (k - 1) ≤ k * (k - 1) := Nat.mul_le_mul_right _ hgk
      have hm2 : (g + 1) * k ≤ k * k := Nat.mul_le_mul_right _ hgk
      rw [Nat.add_mul, Nat.one_mul] at hm1 hm2
      refine lv_aload_n hx hb d_V_rebuildByte_17 rfl (lv_at hl 0 rfl) ?_
      refine va_get (D := D) (ci := 4) (v := .ref qh) (C := R_V) (T := F_V) (N := 11) hx hb hts wl_V hown hK hP 0 rfl rfl 4 (by decide) (hts _ wf_V_51) (fun _ h9 => h9) rfl d_V_rebuildByte_18 ?_
      refine lv_iload_n hx hb d_V_rebuildByte_21 rfl (lv_at hl 3 rfl) ?_
      refine lv_aload_n hx hb d_V_rebuildByte_22 rfl (lv_at hl 0 rfl) ?_
      refine va_get (D := D) (ci := 4) (v := .ref qH) (C := R_V) (T := F_V) (N := 11) hx hb hts wl_V hown hK hP 0 rfl rfl 5 (by decide) (hts _ wf_V_57) (fun _ h9 => h9) rfl d_V_rebuildByte_23 ?_
      refine lv_iload_n hx hb d_V_rebuildByte_26 rfl (lv_at hl 2 rfl) ?_
      refine sd_allVI (As := [.int (nI g), .ref qH, .int (nI j)]) (rest := []) (w1 := ((vW cI cQ cZ qv qp qr qj qg qs qh qn qu qw qH qF qc ql qf (nI (k)) (nI (n)) (ep) (nI ((pft pf (rb_o pr pf k nb lim (tm_f sb wb) g (0, ar_f 0 k su, M)).1))) (nI ((pn - (rb_o pr pf k nb lim (tm_f sb wb) g (0, ar_f 0 k su, M)).1))) (1000) (pr) (wi) (((rb_o pr pf k nb lim (tm_f sb wb) g (0, ar_f 0 k su, M)).2.2).2.2.2) (hf) (nI ((rb_o pr pf k nb lim (tm_f sb wb) g (0, ar_f 0 k su, M)).2.2).2.2.1) (lim) (nt) (lt) (nI (((rb_o pr pf k nb lim (tm_f sb wb) g (0, ar_f 0 k su, M)).2.2).1)) (192) (((rb_o pr pf k nb lim (tm_f sb wb) g (0, ar_f 0 k su, M)).2.2).2.1) (k) (nb) (k) ((rb_o pr pf k nb lim (tm_f sb wb) g (0, ar_f 0 k su, M)).2.1) (k) (wt) (n + 1) (fun i => if i < n + 1 then some (hh i) else none) (n + 1) (fun i => if i < n + 1 then some (ff i) else none) (k) (ch) (8) (le) (n + 1) (fl)) ++ va_pl L (rowE cI rw))) (c_H_term l D cI cZ cQ (qv) (qp) (qr) (qj) (qg) (qs) (qh) (qn) (qu) (qw) (qH) (qF) (qc) (ql) (qf) (k) (n) (pft pf (rb_o pr pf k nb lim (tm_f sb wb) g (0, ar_f 0 k su, M)).1) (pn - (rb_o pr pf k nb lim (tm_f sb wb) g (0, ar_f 0 k su, M)).1) (pr) (wi) ((rb_o pr pf k nb lim (tm_f sb wb) g (0, ar_f 0 k su, M)).2.2) (hf) (lim) (nt) (lt) (nb) ((rb_o pr pf k nb lim (tm_f sb wb) g (0, ar_f 0 k su, M)).2.1) (wt) (ch) (le) (fl) (ep) (L) (hh) (ff) (rw) (g) (j) (xs g) (sb g) (wb g) (hk) (hn) (hhL) (ffL) (by omega) (hj) (hxs g (by omega)) (hxn g (by omega)) (hsb g (by omega)) (hwb g (by omega))) ⟨wc_H_term, wm_V_237, wi_H, by decide, by decide, show (parseMethodDescriptor y_H_term.desc).map (fun d => d.parameters.length) = some 3 by decide +kernel⟩ wo_H_term wz_H_term hx hb hml hown hts hl.1 ⟨Nat.le_of_ble_eq_true rfl, Nat.le_of_ble_eq_true rfl⟩ ⟨Nat.le_of_ble_eq_true rfl, Nat.le_of_ble_eq_true rfl⟩ hK hP hD hS hA (rfl) (q0 := 6) rfl rfl rfl (Nat.le_of_ble_eq_true rfl) d_V_rebuildByte_27 (fun H locs hP hD hS => ?_)
      have hP : va_P D cls ((vW cI cQ cZ qv qp qr qj qg qs qh qn qu qw qH qF qc ql qf (nI (k)) (nI (n)) (ep) (nI ((pft pf (rb_o pr pf k nb lim (tm_f sb wb) g (0, ar_f 0 k su, M)).1))) (nI ((pn - (rb_o pr pf k nb lim (tm_f sb wb) g (0, ar_f 0 k su, M)).1))) (1000) (pr) (wi) (((rb_o pr pf k nb lim (tm_f sb wb) g (0, ar_f 0 k su, M)).2.2).2.2.2) (hf) (nI ((rb_o pr pf k nb lim (tm_f sb wb) g (0, ar_f 0 k su, M)).2.2).2.2.1) (lim) (nt) (lt) (nI (((rb_o pr pf k nb lim (tm_f sb wb) g (0, ar_f 0 k su, M)).2.2).1)) (192) (((rb_o pr pf k nb lim (tm_f sb wb) g (0, ar_f 0 k su, M)).2.2).2.1) (k) (nb) (k) ((rb_o pr pf k nb lim (tm_f sb wb) g (0, ar_f 0 k su, M)).2.1) (k) (wt) (n + 1) (fun i => if i < n + 1 then some (hh i) else none) (n + 1) (fun i => if i < n + 1 then some (ff i) else none) (k) (ch) (8) (le) (n + 1) (fl)) ++ va_pl L (rowE cI rw)) H := hP
      have hD : va_D A ((vW cI cQ cZ qv qp qr qj qg qs qh qn qu qw qH qF qc ql qf (nI (k)) (nI (n)) (ep) (nI ((pft pf (rb_o pr pf k nb lim (tm_f sb wb) g (0, ar_f 0 k su, M)).1))) (nI ((pn - (rb_o pr pf k nb lim (tm_f sb wb) g (0, ar_f 0 k su, M)).1))) (1000) (pr) (wi) (((rb_o pr pf k nb lim (tm_f sb wb) g (0, ar_f 0 k su, M)).2.2).2.2.2) (hf) (nI ((rb_o pr pf k nb lim (tm_f sb wb) g (0, ar_f 0 k su, M)).2.2).2.2.1) (lim) (nt) (lt) (nI (((rb_o pr pf k nb lim (tm_f sb wb) g (0, ar_f 0 k su, M)).2.2).1)) (192) (((rb_o pr pf k nb lim (tm_f sb wb) g (0, ar_f 0 k su, M)).2.2).2.1) (k) (nb) (k) ((rb_o pr pf k nb lim (tm_f sb wb) g (0, ar_f 0 k su, M)).2.1) (k) (wt) (n + 1) (fun i => if i < n + 1 then some (hh i) else none) (n + 1) (fun i => if i < n + 1 then some (ff i) else none) (k) (ch) (8) (le) (n + 1) (fl)) ++ va_pl L (rowE cI rw)) := hD
      refine sd_top (y := tm_f sb wb g) (rfl) ?_
      refine lv_istore hx hb d_V_rebuildByte_30 hl (Nat.le_of_ble_eq_true rfl) (lv' := [(4, .int (tm_f sb wb g)), (0, .ref qv), (1, .int (nI x)), (2, .int (nI j)), (3, .int (nI (g)))]) rfl (fun ls hl => ?_)
      refine lv_iconst (v := 0) hx hb d_V_rebuildByte_32 (by decide) ?_
      refine sd_top (y := nI 0) (rfl) ?_
      refine lv_istore hx hb d_V_rebuildByte_33 hl (Nat.le_of_ble_eq_true rfl) (lv' := [(5, .int (nI 0)), (4, .int (tm_f sb wb g)), (0, .ref qv), (1, .int (nI x)), (2, .int (nI j)), (3, .int (nI (g)))]) rfl (fun ls hl => ?_)
      have hl := lv_sub hl (l' := [(0, .ref qv), (1, .int (nI x)), (2, .int (nI j)), (3, .int (nI (g))), (4, .int (tm_f sb wb g)), (5, .int (nI 0))]) [2, 3, 4, 5, 1, 0] rfl
      have loop35 : ∀ (d : Nat) (h : Nat) (ls : Array Slot) (H : Heap) (locs : List Loc), k - h = d → (h ≤ k) → lv_has ls 7 [(0, .ref qv), (1, .int (nI x)), (2, .int (nI j)), (3, .int (nI (g))), (4, .int ((rb_i pr pf k nb lim g h ((rb_o pr pf k nb lim (tm_f sb wb) g (0, ar_f 0 k su, M)).1, tm_f sb wb g, (rb_o pr pf k nb lim (tm_f sb wb) g (0, ar_f 0 k su, M)).2.1, (rb_o pr pf k nb lim (tm_f sb wb) g (0, ar_f 0 k su, M)).2.2)).2.1)), (5, .int (nI (h)))] → va_P D cls ((vW cI cQ cZ qv qp qr qj qg qs qh qn qu qw qH qF qc ql qf (nI (k)) (nI (n)) (ep) (nI (pft pf (rb_i pr pf k nb lim g h ((rb_o pr pf k nb lim (tm_f sb wb) g (0, ar_f 0 k su, M)).1, tm_f sb wb g, (rb_o pr pf k nb lim (tm_f sb wb) g (0, ar_f 0 k su, M)).2.1, (rb_o pr pf k nb lim (tm_f sb wb) g (0, ar_f 0 k su, M)).2.2)).1)) (nI (pn - (rb_i pr pf k nb lim g h ((rb_o pr pf k nb lim (tm_f sb wb) g (0, ar_f 0 k su, M)).1, tm_f sb wb g, (rb_o pr pf k nb lim (tm_f sb wb) g (0, ar_f 0 k su, M)).2.1, (rb_o pr pf k nb lim (tm_f sb wb) g (0, ar_f 0 k su, M)).2.2)).1)) (1000) (pr) (wi) ((rb_i pr pf k nb lim g h ((rb_o pr pf k nb lim (tm_f sb wb) g (0, ar_f 0 k su, M)).1, tm_f sb wb g, (rb_o pr pf k nb lim (tm_f sb wb) g (0, ar_f 0 k su, M)).2.1, (rb_o pr pf k nb lim (tm_f sb wb) g (0, ar_f 0 k su, M)).2.2)).2.2.2.2.2.2) (hf) (nI (rb_i pr pf k nb lim g h ((rb_o pr pf k nb lim (tm_f sb wb) g (0, ar_f 0 k su, M)).1, tm_f sb wb g, (rb_o pr pf k nb lim (tm_f sb wb) g (0, ar_f 0 k su, M)).2.1, (rb_o pr pf k nb lim (tm_f sb wb) g (0, ar_f 0 k su, M)).2.2)).2.2.2.2.2.1) (lim) (nt) (lt) (nI ((rb_i pr pf k nb lim g h ((rb_o pr pf k nb lim (tm_f sb wb) g (0, ar_f 0 k su, M)).1, tm_f sb wb g, (rb_o pr pf k nb lim (tm_f sb wb) g (0, ar_f 0 k su, M)).2.1, (rb_o pr pf k nb lim (tm_f sb wb) g (0, ar_f 0 k su, M)).2.2)).2.2.2.1)) (192) ((rb_i pr pf k nb lim g h ((rb_o pr pf k nb lim (tm_f sb wb) g (0, ar_f 0 k su, M)).1, tm_f sb wb g, (rb_o pr pf k nb lim (tm_f sb wb) g (0, ar_f 0 k su, M)).2.1, (rb_o pr pf k nb lim (tm_f sb wb) g (0, ar_f 0 k su, M)).2.2)).2.2.2.2.1) (k) (nb) (k) ((rb_i pr pf k nb lim g h ((rb_o pr pf k nb lim (tm_f sb wb) g (0, ar_f 0 k su, M)).1, tm_f sb wb g, (rb_o pr pf k nb lim (tm_f sb wb) g (0, ar_f 0 k su, M)).2.1, (rb_o pr pf k nb lim (tm_f sb wb) g (0, ar_f 0 k su, M)).2.2)).2.2.1) (k) (wt) (n + 1) (fun i => if i < n + 1 then some (hh i) else none) (n + 1) (fun i => if i < n + 1 then some (ff i) else none) (k) (ch) (8) (le) (n + 1) (fl)) ++ va_pl L (rowE cI rw)) H → va_D A ((vW cI cQ cZ qv qp qr qj qg qs qh qn qu qw qH qF qc ql qf (nI (k)) (nI (n)) (ep) (nI (pft pf (rb_i pr pf k nb lim g h ((rb_o pr pf k nb lim (tm_f sb wb) g (0, ar_f 0 k su, M)).1, tm_f sb wb g, (rb_o pr pf k nb lim (tm_f sb wb) g (0, ar_f 0 k su, M)).2.1, (rb_o pr pf k nb lim (tm_f sb wb) g (0, ar_f 0 k su, M)).2.2)).1)) (nI (pn - (rb_i pr pf k nb lim g h ((rb_o pr pf k nb lim (tm_f sb wb) g (0, ar_f 0 k su, M)).1, tm_f sb wb g, (rb_o pr pf k nb lim (tm_f sb wb) g (0, ar_f 0 k su, M)).2.1, (rb_o pr pf k nb lim (tm_f sb wb) g (0, ar_f 0 k su, M)).2.2)).1)) (1000) (pr) (wi) ((rb_i pr pf k nb lim g h ((rb_o pr pf k nb lim (tm_f sb wb) g (0, ar_f 0 k su, M)).1, tm_f sb wb g, (rb_o pr pf k nb lim (tm_f sb wb) g (0, ar_f 0 k su, M)).2.1, (rb_o pr pf k nb lim (tm_f sb wb) g (0, ar_f 0 k su, M)).2.2)).2.2.2.2.2.2) (hf) (nI (rb_i pr pf k nb lim g h ((rb_o pr pf k nb lim (tm_f sb wb) g (0, ar_f 0 k su, M)).1, tm_f sb wb g, (rb_o pr pf k nb lim (tm_f sb wb) g (0, ar_f 0 k su, M)).2.1, (rb_o pr pf k nb lim (tm_f sb wb) g (0, ar_f 0 k su, M)).2.2)).2.2.2.2.2.1) (lim) (nt) (lt) (nI ((rb_i pr pf k nb lim g h ((rb_o pr pf k nb lim (tm_f sb wb) g (0, ar_f 0 k su, M)).1, tm_f sb wb g, (rb_o pr pf k nb lim (tm_f sb wb) g (0, ar_f 0 k su, M)).2.1, (rb_o pr pf k nb lim (tm_f sb wb) g (0, ar_f 0 k su, M)).2.2)).2.2.2.1)) (192) ((rb_i pr pf k nb lim g h ((rb_o pr pf k nb lim (tm_f sb wb) g (0, ar_f 0 k su, M)).1, tm_f sb wb g, (rb_o pr pf k nb lim (tm_f sb wb) g (0, ar_f 0 k su, M)).2.1, (rb_o pr pf k nb lim (tm_f sb wb) g (0, ar_f 0 k su, M)).2.2)).2.2.2.2.1) (k) (nb) (k) ((rb_i pr pf k nb lim g h ((rb_o pr pf k nb lim (tm_f sb wb) g (0, ar_f 0 k su, M)).1, tm_f sb wb g, (rb_o pr pf k nb lim (tm_f sb wb) g (0, ar_f 0 k su, M)).2.1, (rb_o pr pf k nb lim (tm_f sb wb) g (0, ar_f 0 k su, M)).2.2)).2.2.1) (k) (wt) (n + 1) (fun i => if i < n + 1 then some (hh i) else none) (n + 1) (fun i => if i < n + 1 then some (ff i) else none) (k) (ch) (8) (le) (n + 1) (fl)) ++ va_pl L (rowE cI rw)) → va_S A s.heap H locs → W p l e ({ frames := 2, cells := 0, slots := 0, locals := 47 }) s m ([.ref qv, .int (nI x), .int (nI j)] : List Value).toArray below meth c H locs 0 0 (MQ below (sd_qv D ((vW cI cQ cZ qv qp qr qj qg qs qh qn qu qw qH qF qc ql qf (nI (k)) (nI (n)) (ep) (nI (pft pf (rb_o pr pf k nb lim (tm_f sb wb) k (0, ar_f 0 k su, M)).1)) (nI (pn - (rb_o pr pf k nb lim (tm_f sb wb) k (0, ar_f 0 k su, M)).1)) (1000) (pr) (wi) ((rb_e (rb_o pr pf k nb lim (tm_f sb wb) k (0, ar_f 0 k su, M)).2.1 nb lim (nI x) k (0, (rb_o pr pf k nb lim (tm_f sb wb) k (0, ar_f 0 k su, M)).2.2)).2.2.2.2) (hf) (nI (rb_e (rb_o pr pf k nb lim (tm_f sb wb) k (0, ar_f 0 k su, M)).2.1 nb lim (nI x) k (0, (rb_o pr pf k nb lim (tm_f sb wb) k (0, ar_f 0 k su, M)).2.2)).2.2.2.1) (lim) (nt) (lt) (nI ((rb_e (rb_o pr pf k nb lim (tm_f sb wb) k (0, ar_f 0 k su, M)).2.1 nb lim (nI x) k (0, (rb_o pr pf k nb lim (tm_f sb wb) k (0, ar_f 0 k su, M)).2.2)).2.1)) (192) ((rb_e (rb_o pr pf k nb lim (tm_f sb wb) k (0, ar_f 0 k su, M)).2.1 nb lim (nI x) k (0, (rb_o pr pf k nb lim (tm_f sb wb) k (0, ar_f 0 k su, M)).2.2)).2.2.1) (k) (nb) (k) ((rb_o pr pf k nb lim (tm_f sb wb) k (0, ar_f 0 k su, M)).2.1) (k) (wt) (n + 1) (fun i => if i < n + 1 then some (hh i) else none) (n + 1) (fun i => if i < n + 1 then some (ff i) else none) (k) (ch) (8) (le) (n + 1) (fl)) ++ va_pl L (rowE cI (va_up rw (ff x) (upd (rw (ff x)) j (rb_e (rb_o pr pf k nb lim (tm_f sb wb) k (0, ar_f 0 k su, M)).2.1 nb lim (nI x) k (0, (rb_o pr pf k nb lim (tm_f sb wb) k (0, ar_f 0 k su, M)).2.2)).1)))) A) ([.ref qv, .int (nI x), .int (nI j)] : List Value).toArray s 0 0 A) (F0 m 35 ls []) := by
        intro d
        induction d using Nat.strongRecOn with
        | _ d ih35 =>
        intro h ls H locs hd hh9 hl hP hD hS
        subst hd
        refine lv_iload hx hb d_V_rebuildByte_35 (lv_at hl 5 rfl) ?_
        refine lv_aload_n hx hb d_V_rebuildByte_37 rfl (lv_at hl 0 rfl) ?_
        refine va_get (D := D) (ci := 4) (v := .int (nI (k))) (C := R_V) (T := F_V) (N := 11) hx hb hts wl_V hown hK hP 0 rfl rfl 0 (by decide) (hts _ wf_V_43) (fun _ h9 => h9) rfl d_V_rebuildByte_38 ?_
        refine lv_icmp_ge (tgt := 126) hx hb d_V_rebuildByte_41 rfl (fun hc41 => ?_) (fun hc41 => ?_)
        · skip
          rw [nI_leI (by omega) (by omega)] at hc41
          have hhk : k = h := by omega
          subst hhk
          refine lv_iinc hx hb d_V_rebuildByte_126 hl (k := 3) rfl (v := nI (g + 1)) (ii_1 _) (Nat.le_of_ble_eq_true rfl) (lv' := [(3, .int (nI (g + 1))), (0, .ref qv), (1, .int (nI x)), (2, .int (nI j)), (4, .int ((rb_i pr pf k nb lim g k ((rb_o pr pf k nb lim (tm_f sb wb) g (0, ar_f 0 k su, M)).1, tm_f sb wb g, (rb_o pr pf k nb lim (tm_f sb wb) g (0, ar_f 0 k su, M)).2.1, (rb_o pr pf k nb lim (tm_f sb wb) g (0, ar_f 0 k su, M)).2.2)).2.1)), (5, .int (nI (k)))]) rfl (fun ls hl => ?_)
          refine lv_goto (tgt := 9) hx hb d_V_rebuildByte_129 rfl ?_
          have hl := lv_sub hl (l' := [(0, .ref qv), (1, .int (nI x)), (2, .int (nI j)), (3, .int (nI (g + 1)))]) [1, 2, 3, 0] rfl
          exact ih9 _ (by omega) (g + 1) ls _ _ rfl (by omega) hl hP hD hS
        · skip
          rw [nI_leI (by omega) (by omega)] at hc41
          have hN1 := rb_i1 pr pf k nb lim g h ((rb_o pr pf k nb lim (tm_f sb wb) g (0, ar_f 0 k su, M)).1, tm_f sb wb g, (rb_o pr pf k nb lim (tm_f sb wb) g (0, ar_f 0 k su, M)).2.1, (rb_o pr pf k nb lim (tm_f sb wb) g (0, ar_f 0 k su, M)).2.2)
          have hN2 := rb_i2 pr pf k nb lim g h ((rb_o pr pf k nb lim (tm_f sb wb) g (0, ar_f 0 k su, M)).1, tm_f sb wb g, (rb_o pr pf k nb lim (tm_f sb wb) g (0, ar_f 0 k su, M)).2.1, (rb_o pr pf k nb lim (tm_f sb wb) g (0, ar_f 0 k su, M)).2.2)
          dsimp only at hN1 hN2
          have hTi : (rb_i pr pf k nb lim g h ((rb_o pr pf k nb lim (tm_f sb wb) g (0, ar_f 0 k su, M)).1, tm_f sb wb g, (rb_o pr pf k nb lim (tm_f sb wb) g (0, ar_f 0 k su, M)).2.1, (rb_o pr pf k nb lim (tm_f sb wb) g (0, ar_f 0 k su, M)).2.2)).2.2.2.1 < 2 ^ 31 := by omega
          have join67 : ∀ (t2 : Nat) (pc9 : Int32) (ls : Array Slot) (H : Heap) (locs : List Loc), (t2 = if h < k - 1 then (rb_i pr pf k nb lim g h ((rb_o pr pf k nb lim (tm_f sb wb) g (0, ar_f 0 k su, M)).1, tm_f sb wb g, (rb_o pr pf k nb lim (tm_f sb wb) g (0, ar_f 0 k su, M)).2.1, (rb_o pr pf k nb lim (tm_f sb wb) g (0, ar_f 0 k su, M)).2.2)).1 + 1 else (rb_i pr pf k nb lim g h ((rb_o pr pf k nb lim (tm_f sb wb) g (0, ar_f 0 k su, M)).1, tm_f sb wb g, (rb_o pr pf k nb lim (tm_f sb wb) g (0, ar_f 0 k su, M)).2.1, (rb_o pr pf k nb lim (tm_f sb wb) g (0, ar_f 0 k su, M)).2.2)).1) → (pc9 = if h < k - 1 then pr (pft pf (rb_i pr pf k nb lim g h ((rb_o pr pf k nb lim (tm_f sb wb) g (0, ar_f 0 k su, M)).1, tm_f sb wb g, (rb_o pr pf k nb lim (tm_f sb wb) g (0, ar_f 0 k su, M)).2.1, (rb_o pr pf k nb lim (tm_f sb wb) g (0, ar_f 0 k su, M)).2.2)).1) else (rb_i pr pf k nb lim g h ((rb_o pr pf k nb lim (tm_f sb wb) g (0, ar_f 0 k su, M)).1, tm_f sb wb g, (rb_o pr pf k nb lim (tm_f sb wb) g (0, ar_f 0 k su, M)).2.1, (rb_o pr pf k nb lim (tm_f sb wb) g (0, ar_f 0 k su, M)).2.2)).2.1) → lv_has ls 7 [(0, .ref qv), (1, .int (nI x)), (2, .int (nI j)), (3, .int (nI (g))), (4, .int ((rb_i pr pf k nb lim g h ((rb_o pr pf k nb lim (tm_f sb wb) g (0, ar_f 0 k su, M)).1, tm_f sb wb g, (rb_o pr pf k nb lim (tm_f sb wb) g (0, ar_f 0 k su, M)).2.1, (rb_o pr pf k nb lim (tm_f sb wb) g (0, ar_f 0 k su, M)).2.2)).2.1)), (5, .int (nI (h)))] → va_P D cls ((vW cI cQ cZ qv qp qr qj qg qs qh qn qu qw qH qF qc ql qf (nI (k)) (nI (n)) (ep) (nI (pft pf t2)) (nI (pn - t2)) (1000) (pr) (wi) ((rb_i pr pf k nb lim g h ((rb_o pr pf k nb lim (tm_f sb wb) g (0, ar_f 0 k su, M)).1, tm_f sb wb g, (rb_o pr pf k nb lim (tm_f sb wb) g (0, ar_f 0 k su, M)).2.1, (rb_o pr pf k nb lim (tm_f sb wb) g (0, ar_f 0 k su, M)).2.2)).2.2.2.2.2.2) (hf) (nI (rb_i pr pf k nb lim g h ((rb_o pr pf k nb lim (tm_f sb wb) g (0, ar_f 0 k su, M)).1, tm_f sb wb g, (rb_o pr pf k nb lim (tm_f sb wb) g (0, ar_f 0 k su, M)).2.1, (rb_o pr pf k nb lim (tm_f sb wb) g (0, ar_f 0 k su, M)).2.2)).2.2.2.2.2.1) (lim) (nt) (lt) (nI ((rb_i pr pf k nb lim g h ((rb_o pr pf k nb lim (tm_f sb wb) g (0, ar_f 0 k su, M)).1, tm_f sb wb g, (rb_o pr pf k nb lim (tm_f sb wb) g (0, ar_f 0 k su, M)).2.1, (rb_o pr pf k nb lim (tm_f sb wb) g (0, ar_f 0 k su, M)).2.2)).2.2.2.1)) (192) ((rb_i pr pf k nb lim g h ((rb_o pr pf k nb lim (tm_f sb wb) g (0, ar_f 0 k su, M)).1, tm_f sb wb g, (rb_o pr pf k nb lim (tm_f sb wb) g (0, ar_f 0 k su, M)).2.1, (rb_o pr pf k nb lim (tm_f sb wb) g (0, ar_f 0 k su, M)).2.2)).2.2.2.2.1) (k) (nb) (k) ((rb_i pr pf k nb lim g h ((rb_o pr pf k nb lim (tm_f sb wb) g (0, ar_f 0 k su, M)).1, tm_f sb wb g, (rb_o pr pf k nb lim (tm_f sb wb) g (0, ar_f 0 k su, M)).2.1, (rb_o pr pf k nb lim (tm_f sb wb) g (0, ar_f 0 k su, M)).2.2)).2.2.1) (k) (wt) (n + 1) (fun i => if i < n + 1 then some (hh i) else none) (n + 1) (fun i => if i < n + 1 then some (ff i) else none) (k) (ch) (8) (le) (n + 1) (fl)) ++ va_pl L (rowE cI rw)) H → va_D A ((vW cI cQ cZ qv qp qr qj qg qs qh qn qu qw qH qF qc ql qf (nI (k)) (nI (n)) (ep) (nI (pft pf t2)) (nI (pn - t2)) (1000) (pr) (wi) ((rb_i pr pf k nb lim g h ((rb_o pr pf k nb lim (tm_f sb wb) g (0, ar_f 0 k su, M)).1, tm_f sb wb g, (rb_o pr pf k nb lim (tm_f sb wb) g (0, ar_f 0 k su, M)).2.1, (rb_o pr pf k nb lim (tm_f sb wb) g (0, ar_f 0 k su, M)).2.2)).2.2.2.2.2.2) (hf) (nI (rb_i pr pf k nb lim g h ((rb_o pr pf k nb lim (tm_f sb wb) g (0, ar_f 0 k su, M)).1, tm_f sb wb g, (rb_o pr pf k nb lim (tm_f sb wb) g (0, ar_f 0 k su, M)).2.1, (rb_o pr pf k nb lim (tm_f sb wb) g (0, ar_f 0 k su, M)).2.2)).2.2.2.2.2.1) (lim) (nt) (lt) (nI ((rb_i pr pf k nb lim g h ((rb_o pr pf k nb lim (tm_f sb wb) g (0, ar_f 0 k su, M)).1, tm_f sb wb g, (rb_o pr pf k nb lim (tm_f sb wb) g (0, ar_f 0 k su, M)).2.1, (rb_o pr pf k nb lim (tm_f sb wb) g (0, ar_f 0 k su, M)).2.2)).2.2.2.1)) (192) ((rb_i pr pf k nb lim g h ((rb_o pr pf k nb lim (tm_f sb wb) g (0, ar_f 0 k su, M)).1, tm_f sb wb g, (rb_o pr pf k nb lim (tm_f sb wb) g (0, ar_f 0 k su, M)).2.1, (rb_o pr pf k nb lim (tm_f sb wb) g (0, ar_f 0 k su, M)).2.2)).2.2.2.2.1) (k) (nb) (k) ((rb_i pr pf k nb lim g h ((rb_o pr pf k nb lim (tm_f sb wb) g (0, ar_f 0 k su, M)).1, tm_f sb wb g, (rb_o pr pf k nb lim (tm_f sb wb) g (0, ar_f 0 k su, M)).2.1, (rb_o pr pf k nb lim (tm_f sb wb) g (0, ar_f 0 k su, M)).2.2)).2.2.1) (k) (wt) (n + 1) (fun i => if i < n + 1 then some (hh i) else none) (n + 1) (fun i => if i < n + 1 then some (ff i) else none) (k) (ch) (8) (le) (n + 1) (fl)) ++ va_pl L (rowE cI rw)) → va_S A s.heap H locs → W p l e ({ frames := 2, cells := 0, slots := 0, locals := 47 }) s m ([.ref qv, .int (nI x), .int (nI j)] : List Value).toArray below meth c H locs 0 0 (MQ below (sd_qv D ((vW cI cQ cZ qv qp qr qj qg qs qh qn qu qw qH qF qc ql qf (nI (k)) (nI (n)) (ep) (nI (pft pf (rb_o pr pf k nb lim (tm_f sb wb) k (0, ar_f 0 k su, M)).1)) (nI (pn - (rb_o pr pf k nb lim (tm_f sb wb) k (0, ar_f 0 k su, M)).1)) (1000) (pr) (wi) ((rb_e (rb_o pr pf k nb lim (tm_f sb wb) k (0, ar_f 0 k su, M)).2.1 nb lim (nI x) k (0, (rb_o pr pf k nb lim (tm_f sb wb) k (0, ar_f 0 k su, M)).2.2)).2.2.2.2) (hf) (nI (rb_e (rb_o pr pf k nb lim (tm_f sb wb) k (0, ar_f 0 k su, M)).2.1 nb lim (nI x) k (0, (rb_o pr pf k nb lim (tm_f sb wb) k (0, ar_f 0 k su, M)).2.2)).2.2.2.1) (lim) (nt) (lt) (nI ((rb_e (rb_o pr pf k nb lim (tm_f sb wb) k (0, ar_f 0 k su, M)).2.1 nb lim (nI x) k (0, (rb_o pr pf k nb lim (tm_f sb wb) k (0, ar_f 0 k su, M)).2.2)).2.1)) (192) ((rb_e (rb_o pr pf k nb lim (tm_f sb wb) k (0, ar_f 0 k su, M)).2.1 nb lim (nI x) k (0, (rb_o pr pf k nb lim (tm_f sb wb) k (0, ar_f 0 k su, M)).2.2)).2.2.1) (k) (nb) (k) ((rb_o pr pf k nb lim (tm_f sb wb) k (0, ar_f 0 k su, M)).2.1) (k) (wt) (n + 1) (fun i => if i < n + 1 then some (hh i) else none) (n + 1) (fun i => if i < n + 1 then some (ff i) else none) (k) (ch) (8) (le) (n + 1) (fl)) ++ va_pl L (rowE cI (va_up rw (ff x) (upd (rw (ff x)) j (rb_e (rb_o pr pf k nb lim (tm_f sb wb) k (0, ar_f 0 k su, M)).2.1 nb lim (nI x) k (0, (rb_o pr pf k nb lim (tm_f sb wb) k (0, ar_f 0 k su, M)).2.2)).1)))) A) ([.ref qv, .int (nI x), .int (nI j)] : List Value).toArray s 0 0 A) (F0 m 67 ls [.int (pc9)]) := by
            intro t2 pc9 ls H locs ht2 hpc hl hP hD hS
            refine lv_istore hx hb d_V_rebuildByte_67 hl (Nat.le_of_ble_eq_true rfl) (lv' := [(6, .int (pc9)), (0, .ref qv), (1, .int (nI x)), (2, .int (nI j)), (3, .int (nI (g))), (4, .int ((rb_i pr pf k nb lim g h ((rb_o pr pf k nb lim (tm_f sb wb) g (0, ar_f 0 k su, M)).1, tm_f sb wb g, (rb_o pr pf k nb lim (tm_f sb wb) g (0, ar_f 0 k su, M)).2.1, (rb_o pr pf k nb lim (tm_f sb wb) g (0, ar_f 0 k su, M)).2.2)).2.1)), (5, .int (nI (h)))]) rfl (fun ls hl => ?_)
            refine lv_iload hx hb d_V_rebuildByte_69 (lv_at hl 5 rfl) ?_
            refine lv_iload hx hb d_V_rebuildByte_71 (lv_at hl 0 rfl) ?_
            refine lv_ixor hx hb d_V_rebuildByte_73 ?_
            refine lv_istore hx hb d_V_rebuildByte_74 hl (Nat.le_of_ble_eq_true rfl) (lv' := [(4, .int (((rb_i pr pf k nb lim g h ((rb_o pr pf k nb lim (tm_f sb wb) g (0, ar_f 0 k su, M)).1, tm_f sb wb g, (rb_o pr pf k nb lim (tm_f sb wb) g (0, ar_f 0 k su, M)).2.1, (rb_o pr pf k nb lim (tm_f sb wb) g (0, ar_f 0 k su, M)).2.2)).2.1) ^^^ (pc9))), (6, .int (pc9)), (0, .ref qv), (1, .int (nI x)), (2, .int (nI j)), (3, .int (nI (g))), (5, .int (nI (h)))]) rfl (fun ls hl => ?_)
            refine lv_aload_n hx hb d_V_rebuildByte_76 rfl (lv_at hl 2 rfl) ?_
            refine va_get (D := D) (ci := 4) (v := .ref qh) (C := R_V) (T := F_V) (N := 11) hx hb hts wl_V hown hK hP 0 rfl rfl 4 (by decide) (hts _ wf_V_51) (fun _ h9 => h9) rfl d_V_rebuildByte_77 ?_
            refine va_get (D := D) (ci := 3) (v := .ref qu) (C := R_H) (T := F_H) (N := 3) hx hb hts wl_H hown hK hP 6 rfl rfl 1 (by decide) (hts _ wf_V_241) (fun _ h9 => h9) rfl d_V_rebuildByte_80 ?_
            refine lv_iload hx hb d_V_rebuildByte_83 (lv_at hl 6 rfl) ?_
            refine lv_dup2_11 hx hb d_V_rebuildByte_85 rfl rfl ?_
            refine sd_iald (j := h) hx hb hK hP 8 0 rfl rfl (by omega) (by omega) d_V_rebuildByte_86 ?_
            refine lv_iload hx hb d_V_rebuildByte_87 (lv_at hl 1 rfl) ?_
            refine lv_ixor hx hb d_V_rebuildByte_89 ?_
            refine sd_iast (j := h) hx hb hK hP hD hS 8 0 rfl rfl (by omega) (by omega) d_V_rebuildByte_90 (fun H locs hP hD hS => ?_)
            have hP : va_P D cls ((vW cI cQ cZ qv qp qr qj qg qs qh qn qu qw qH qF qc ql qf (nI (k)) (nI (n)) (ep) (nI (pft pf t2)) (nI (pn - t2)) (1000) (pr) (wi) ((rb_i pr pf k nb lim g h ((rb_o pr pf k nb lim (tm_f sb wb) g (0, ar_f 0 k su, M)).1, tm_f sb wb g, (rb_o pr pf k nb lim (tm_f sb wb) g (0, ar_f 0 k su, M)).2.1, (rb_o pr pf k nb lim (tm_f sb wb) g (0, ar_f 0 k su, M)).2.2)).2.2.2.2.2.2) (hf) (nI (rb_i pr pf k nb lim g h ((rb_o pr pf k nb lim (tm_f sb wb) g (0, ar_f 0 k su, M)).1, tm_f sb wb g, (rb_o pr pf k nb lim (tm_f sb wb) g (0, ar_f 0 k su, M)).2.1, (rb_o pr pf k nb lim (tm_f sb wb) g (0, ar_f 0 k su, M)).2.2)).2.2.2.2.2.1) (lim) (nt) (lt) (nI ((rb_i pr pf k nb lim g h ((rb_o pr pf k nb lim (tm_f sb wb) g (0, ar_f 0 k su, M)).1, tm_f sb wb g, (rb_o pr pf k nb lim (tm_f sb wb) g (0, ar_f 0 k su, M)).2.1, (rb_o pr pf k nb lim (tm_f sb wb) g (0, ar_f 0 k su, M)).2.2)).2.2.2.1)) (192) ((rb_i pr pf k nb lim g h ((rb_o pr pf k nb lim (tm_f sb wb) g (0, ar_f 0 k su, M)).1, tm_f sb wb g, (rb_o pr pf k nb lim (tm_f sb wb) g (0, ar_f 0 k su, M)).2.1, (rb_o pr pf k nb lim (tm_f sb wb) g (0, ar_f 0 k su, M)).2.2)).2.2.2.2.1) (k) (nb) (k) (upd ((rb_i pr pf k nb lim g h ((rb_o pr pf k nb lim (tm_f sb wb) g (0, ar_f 0 k su, M)).1, tm_f sb wb g, (rb_o pr pf k nb lim (tm_f sb wb) g (0, ar_f 0 k su, M)).2.1, (rb_o pr pf k nb lim (tm_f sb wb) g (0, ar_f 0 k su, M)).2.2)).2.2.1) (h) ((((rb_i pr pf k nb lim g h ((rb_o pr pf k nb lim (tm_f sb wb) g (0, ar_f 0 k su, M)).1, tm_f sb wb g, (rb_o pr pf k nb lim (tm_f sb wb) g (0, ar_f 0 k su, M)).2.1, (rb_o pr pf k nb lim (tm_f sb wb) g (0, ar_f 0 k su, M)).2.2)).2.2.1) (h)) ^^^ (pc9))) (k) (wt) (n + 1) (fun i => if i < n + 1 then some (hh i) else none) (n + 1) (fun i => if i < n + 1 then some (ff i) else none) (k) (ch) (8) (le) (n + 1) (fl)) ++ va_pl L (rowE cI rw)) H := hP
            have hD : va_D A ((vW cI cQ cZ qv qp qr qj qg qs qh qn qu qw qH qF qc ql qf (nI (k)) (nI (n)) (ep) (nI (pft pf t2)) (nI (pn - t2)) (1000) (pr) (wi) ((rb_i pr pf k nb lim g h ((rb_o pr pf k nb lim (tm_f sb wb) g (0, ar_f 0 k su, M)).1, tm_f sb wb g, (rb_o pr pf k nb lim (tm_f sb wb) g (0, ar_f 0 k su, M)).2.1, (rb_o pr pf k nb lim (tm_f sb wb) g (0, ar_f 0 k su, M)).2.2)).2.2.2.2.2.2) (hf) (nI (rb_i pr pf k nb lim g h ((rb_o pr pf k nb lim (tm_f sb wb) g (0, ar_f 0 k su, M)).1, tm_f sb wb g, (rb_o pr pf k nb lim (tm_f sb wb) g (0, ar_f 0 k su, M)).2.1, (rb_o pr pf k nb lim (tm_f sb wb) g (0, ar_f 0 k su, M)).2.2)).2.2.2.2.2.1) (lim) (nt) (lt) (nI ((rb_i pr pf k nb lim g h ((rb_o pr pf k nb lim (tm_f sb wb) g (0, ar_f 0 k su, M)).1, tm_f sb wb g, (rb_o pr pf k nb lim (tm_f sb wb) g (0, ar_f 0 k su, M)).2.1, (rb_o pr pf k nb lim (tm_f sb wb) g (0, ar_f 0 k su, M)).2.2)).2.2.2.1)) (192) ((rb_i pr pf k nb lim g h ((rb_o pr pf k nb lim (tm_f sb wb) g (0, ar_f 0 k su, M)).1, tm_f sb wb g, (rb_o pr pf k nb lim (tm_f sb wb) g (0, ar_f 0 k su, M)).2.1, (rb_o pr pf k nb lim (tm_f sb wb) g (0, ar_f 0 k su, M)).2.2)).2.2.2.2.1) (k) (nb) (k) (upd ((rb_i pr pf k nb lim g h ((rb_o pr pf k nb lim (tm_f sb wb) g (0, ar_f 0 k su, M)).1, tm_f sb wb g, (rb_o pr pf k nb lim (tm_f sb wb) g (0, ar_f 0 k su, M)).2.1, (rb_o pr pf k nb lim (tm_f sb wb) g (0, ar_f 0 k su, M)).2.2)).2.2.1) (h) ((((rb_i pr pf k nb lim g h ((rb_o pr pf k nb lim (tm_f sb wb) g (0, ar_f 0 k su, M)).1, tm_f sb wb g, (rb_o pr pf k nb lim (tm_f sb wb) g (0, ar_f 0 k su, M)).2.1, (rb_o pr pf k nb lim (tm_f sb wb) g (0, ar_f 0 k su, M)).2.2)).2.2.1) (h)) ^^^ (pc9))) (k) (wt) (n + 1) (fun i => if i < n + 1 then some (hh i) else none) (n + 1) (fun i => if i < n + 1 then some (ff i) else none) (k) (ch) (8) (le) (n + 1) (fl)) ++ va_pl L (rowE cI rw)) := hD
            refine lv_aload_n hx hb d_V_rebuildByte_91 rfl (lv_at hl 2 rfl) ?_
            refine va_get (D := D) (ci := 4) (v := .ref qj) (C := R_V) (T := F_V) (N := 11) hx hb hts wl_V hown hK hP 0 rfl rfl 3 (by decide) (hts _ wf_V_19) (fun _ h9 => h9) rfl d_V_rebuildByte_92 ?_
            refine lv_aload_n hx hb d_V_rebuildByte_95 rfl (lv_at hl 2 rfl) ?_
            refine va_get (D := D) (ci := 4) (v := .ref qh) (C := R_V) (T := F_V) (N := 11) hx hb hts wl_V hown hK hP 0 rfl rfl 4 (by decide) (hts _ wf_V_51) (fun _ h9 => h9) rfl d_V_rebuildByte_96 ?_
            refine va_get (D := D) (ci := 3) (v := .ref qn) (C := R_H) (T := F_H) (N := 3) hx hb hts wl_H hown hK hP 6 rfl rfl 0 (by decide) (hts _ wf_V_244) (fun _ h9 => h9) rfl d_V_rebuildByte_99 ?_
            refine lv_iload_n hx hb d_V_rebuildByte_102 rfl (lv_at hl 5 rfl) ?_
            refine sd_iald (j := g) hx hb hK hP 7 0 rfl rfl (by omega) (by omega) d_V_rebuildByte_103 ?_
            refine lv_aload_n hx hb d_V_rebuildByte_104 rfl (lv_at hl 2 rfl) ?_
            refine va_get (D := D) (ci := 4) (v := .ref qh) (C := R_V) (T := F_V) (N := 11) hx hb hts wl_V hown hK hP 0 rfl rfl 4 (by decide) (hts _ wf_V_51) (fun _ h9 => h9) rfl d_V_rebuildByte_105 ?_
            refine va_get (D := D) (ci := 3) (v := .ref qn) (C := R_H) (T := F_H) (N := 3) hx hb hts wl_H hown hK hP 6 rfl rfl 0 (by decide) (hts _ wf_V_244) (fun _ h9 => h9) rfl d_V_rebuildByte_108 ?_
            refine lv_iload hx hb d_V_rebuildByte_111 (lv_at hl 6 rfl) ?_
            refine sd_iald (j := h) hx hb hK hP 7 0 rfl rfl (by omega) (by omega) d_V_rebuildByte_113 ?_
            refine lv_iload hx hb d_V_rebuildByte_114 (lv_at hl 1 rfl) ?_
            refine sd_callVI (As := [.int (nb (g)), .int (nb (h)), .int (pc9)]) (rest := []) (cx := [(qj, .inr (2, [.ref qg, .int (wi), .int (((rb_i pr pf k nb lim g h ((rb_o pr pf k nb lim (tm_f sb wb) g (0, ar_f 0 k su, M)).1, tm_f sb wb g, (rb_o pr pf k nb lim (tm_f sb wb) g (0, ar_f 0 k su, M)).2.1, (rb_o pr pf k nb lim (tm_f sb wb) g (0, ar_f 0 k su, M)).2.2)).2.2.2).2.2.2), .int (hf), .int (nI ((rb_i pr pf k nb lim g h ((rb_o pr pf k nb lim (tm_f sb wb) g (0, ar_f 0 k su, M)).1, tm_f sb wb g, (rb_o pr pf k nb lim (tm_f sb wb) g (0, ar_f 0 k su, M)).2.1, (rb_o pr pf k nb lim (tm_f sb wb) g (0, ar_f 0 k su, M)).2.2)).2.2.2).2.2.1), .int (lim), .int (nt), .int (lt)])), (qg, .inr (1, [.ref qs, .int (nI (((rb_i pr pf k nb lim g h ((rb_o pr pf k nb lim (tm_f sb wb) g (0, ar_f 0 k su, M)).1, tm_f sb wb g, (rb_o pr pf k nb lim (tm_f sb wb) g (0, ar_f 0 k su, M)).2.1, (rb_o pr pf k nb lim (tm_f sb wb) g (0, ar_f 0 k su, M)).2.2)).2.2.2).1))])), (qs, .inl (cI, 192, .inl (((rb_i pr pf k nb lim g h ((rb_o pr pf k nb lim (tm_f sb wb) g (0, ar_f 0 k su, M)).1, tm_f sb wb g, (rb_o pr pf k nb lim (tm_f sb wb) g (0, ar_f 0 k su, M)).2.1, (rb_o pr pf k nb lim (tm_f sb wb) g (0, ar_f 0 k su, M)).2.2)).2.2.2).2.1)))]) (w1 := [(qj, .inr (2, [.ref qg, .int (wi), .int ((ms_s lim ((rb_i pr pf k nb lim g h ((rb_o pr pf k nb lim (tm_f sb wb) g (0, ar_f 0 k su, M)).1, tm_f sb wb g, (rb_o pr pf k nb lim (tm_f sb wb) g (0, ar_f 0 k su, M)).2.1, (rb_o pr pf k nb lim (tm_f sb wb) g (0, ar_f 0 k su, M)).2.2)).2.2.2) (nb (g)) (nb (h)) pc9).2.2.2), .int (hf), .int (nI (ms_s lim ((rb_i pr pf k nb lim g h ((rb_o pr pf k nb lim (tm_f sb wb) g (0, ar_f 0 k su, M)).1, tm_f sb wb g, (rb_o pr pf k nb lim (tm_f sb wb) g (0, ar_f 0 k su, M)).2.1, (rb_o pr pf k nb lim (tm_f sb wb) g (0, ar_f 0 k su, M)).2.2)).2.2.2) (nb (g)) (nb (h)) pc9).2.2.1), .int (lim), .int (nt), .int (lt)])), (qg, .inr (1, [.ref qs, .int (nI ((ms_s lim ((rb_i pr pf k nb lim g h ((rb_o pr pf k nb lim (tm_f sb wb) g (0, ar_f 0 k su, M)).1, tm_f sb wb g, (rb_o pr pf k nb lim (tm_f sb wb) g (0, ar_f 0 k su, M)).2.1, (rb_o pr pf k nb lim (tm_f sb wb) g (0, ar_f 0 k su, M)).2.2)).2.2.2) (nb (g)) (nb (h)) pc9).1))])), (qs, .inl (cI, 192, .inl ((ms_s lim ((rb_i pr pf k nb lim g h ((rb_o pr pf k nb lim (tm_f sb wb) g (0, ar_f 0 k su, M)).1, tm_f sb wb g, (rb_o pr pf k nb lim (tm_f sb wb) g (0, ar_f 0 k su, M)).2.1, (rb_o pr pf k nb lim (tm_f sb wb) g (0, ar_f 0 k su, M)).2.2)).2.2.2) (nb (g)) (nb (h)) pc9).2.1)))]) (c_J_send l D cI cZ cQ (qj) (qg) (qs) (wi) ((rb_i pr pf k nb lim g h ((rb_o pr pf k nb lim (tm_f sb wb) g (0, ar_f 0 k su, M)).1, tm_f sb wb g, (rb_o pr pf k nb lim (tm_f sb wb) g (0, ar_f 0 k su, M)).2.1, (rb_o pr pf k nb lim (tm_f sb wb) g (0, ar_f 0 k su, M)).2.2)).2.2.2) (hf) (lim) (nt) (lt) (nb (g)) (nb (h)) (pc9) (hTi)) ⟨wc_J_send, wm_V_230, wi_J, by decide, by decide, show (parseMethodDescriptor y_J_send.desc).map (fun d => d.parameters.length) = some 3 by decide +kernel⟩ wo_J_send wz_J_send hx hb hml hown hts hl.1 ⟨Nat.le_of_ble_eq_true rfl, Nat.le_of_ble_eq_true rfl⟩ ⟨Nat.le_of_ble_eq_true rfl, Nat.le_of_ble_eq_true rfl⟩ hK hP hD hS hA [3, 4, 5] rfl (by decide) rfl rfl (q0 := 0) rfl rfl rfl (Nat.le_of_ble_eq_true rfl) d_V_rebuildByte_116 (fun H locs hP hD hS => ?_)
            have hP : va_P D cls ((vW cI cQ cZ qv qp qr qj qg qs qh qn qu qw qH qF qc ql qf (nI (k)) (nI (n)) (ep) (nI (pft pf t2)) (nI (pn - t2)) (1000) (pr) (wi) ((ms_s lim ((rb_i pr pf k nb lim g h ((rb_o pr pf k nb lim (tm_f sb wb) g (0, ar_f 0 k su, M)).1, tm_f sb wb g, (rb_o pr pf k nb lim (tm_f sb wb) g (0, ar_f 0 k su, M)).2.1, (rb_o pr pf k nb lim (tm_f sb wb) g (0, ar_f 0 k su, M)).2.2)).2.2.2) (nb (g)) (nb (h)) pc9).2.2.2) (hf) (nI (ms_s lim ((rb_i pr pf k nb lim g h ((rb_o pr pf k nb lim (tm_f sb wb) g (0, ar_f 0 k su, M)).1, tm_f sb wb g, (rb_o pr pf k nb lim (tm_f sb wb) g (0, ar_f 0 k su, M)).2.1, (rb_o pr pf k nb lim (tm_f sb wb) g (0, ar_f 0 k su, M)).2.2)).2.2.2) (nb (g)) (nb (h)) pc9).2.2.1) (lim) (nt) (lt) (nI ((ms_s lim ((rb_i pr pf k nb lim g h ((rb_o pr pf k nb lim (tm_f sb wb) g (0, ar_f 0 k su, M)).1, tm_f sb wb g, (rb_o pr pf k nb lim (tm_f sb wb) g (0, ar_f 0 k su, M)).2.1, (rb_o pr pf k nb lim (tm_f sb wb) g (0, ar_f 0 k su, M)).2.2)).2.2.2) (nb (g)) (nb (h)) pc9).1)) (192) ((ms_s lim ((rb_i pr pf k nb lim g h ((rb_o pr pf k nb lim (tm_f sb wb) g (0, ar_f 0 k su, M)).1, tm_f sb wb g, (rb_o pr pf k nb lim (tm_f sb wb) g (0, ar_f 0 k su, M)).2.1, (rb_o pr pf k nb lim (tm_f sb wb) g (0, ar_f 0 k su, M)).2.2)).2.2.2) (nb (g)) (nb (h)) pc9).2.1) (k) (nb) (k) (upd ((rb_i pr pf k nb lim g h ((rb_o pr pf k nb lim (tm_f sb wb) g (0, ar_f 0 k su, M)).1, tm_f sb wb g, (rb_o pr pf k nb lim (tm_f sb wb) g (0, ar_f 0 k su, M)).2.1, (rb_o pr pf k nb lim (tm_f sb wb) g (0, ar_f 0 k su, M)).2.2)).2.2.1) (h) ((((rb_i pr pf k nb lim g h ((rb_o pr pf k nb lim (tm_f sb wb) g (0, ar_f 0 k su, M)).1, tm_f sb wb g, (rb_o pr pf k nb lim (tm_f sb wb) g (0, ar_f 0 k su, M)).2.1, (rb_o pr pf k nb lim (tm_f sb wb) g (0, ar_f 0 k su, M)).2.2)).2.2.1) (h)) ^^^ (pc9))) (k) (wt) (n + 1) (fun i => if i < n + 1 then some (hh i) else none) (n + 1) (fun i => if i < n + 1 then some (ff i) else none) (k) (ch) (8) (le) (n + 1) (fl)) ++ va_pl L (rowE cI rw)) H := hP
            have hD : va_D A ((vW cI cQ cZ qv qp qr qj qg qs qh qn qu qw qH qF qc ql qf (nI (k)) (nI (n)) (ep) (nI (pft pf t2)) (nI (pn - t2)) (1000) (pr) (wi) ((ms_s lim ((rb_i pr pf k nb lim g h ((rb_o pr pf k nb lim (tm_f sb wb) g (0, ar_f 0 k su, M)).1, tm_f sb wb g, (rb_o pr pf k nb lim (tm_f sb wb) g (0, ar_f 0 k su, M)).2.1, (rb_o pr pf k nb lim (tm_f sb wb) g (0, ar_f 0 k su, M)).2.2)).2.2.2) (nb (g)) (nb (h)) pc9).2.2.2) (hf) (nI (ms_s lim ((rb_i pr pf k nb lim g h ((rb_o pr pf k nb lim (tm_f sb wb) g (0, ar_f 0 k su, M)).1, tm_f sb wb g, (rb_o pr pf k nb lim (tm_f sb wb) g (0, ar_f 0 k su, M)).2.1, (rb_o pr pf k nb lim (tm_f sb wb) g (0, ar_f 0 k su, M)).2.2)).2.2.2) (nb (g)) (nb (h)) pc9).2.2.1) (lim) (nt) (lt) (nI ((ms_s lim ((rb_i pr pf k nb lim g h ((rb_o pr pf k nb lim (tm_f sb wb) g (0, ar_f 0 k su, M)).1, tm_f sb wb g, (rb_o pr pf k nb lim (tm_f sb wb) g (0, ar_f 0 k su, M)).2.1, (rb_o pr pf k nb lim (tm_f sb wb) g (0, ar_f 0 k su, M)).2.2)).2.2.2) (nb (g)) (nb (h)) pc9).1)) (192) ((ms_s lim ((rb_i pr pf k nb lim g h ((rb_o pr pf k nb lim (tm_f sb wb) g (0, ar_f 0 k su, M)).1, tm_f sb wb g, (rb_o pr pf k nb lim (tm_f sb wb) g (0, ar_f 0 k su, M)).2.1, (rb_o pr pf k nb lim (tm_f sb wb) g (0, ar_f 0 k su, M)).2.2)).2.2.2) (nb (g)) (nb (h)) pc9).2.1) (k) (nb) (k) (upd ((rb_i pr pf k nb lim g h ((rb_o pr pf k nb lim (tm_f sb wb) g (0, ar_f 0 k su, M)).1, tm_f sb wb g, (rb_o pr pf k nb lim (tm_f sb wb) g (0, ar_f 0 k su, M)).2.1, (rb_o pr pf k nb lim (tm_f sb wb) g (0, ar_f 0 k su, M)).2.2)).2.2.1) (h) ((((rb_i pr pf k nb lim g h ((rb_o pr pf k nb lim (tm_f sb wb) g (0, ar_f 0 k su, M)).1, tm_f sb wb g, (rb_o pr pf k nb lim (tm_f sb wb) g (0, ar_f 0 k su, M)).2.1, (rb_o pr pf k nb lim (tm_f sb wb) g (0, ar_f 0 k su, M)).2.2)).2.2.1) (h)) ^^^ (pc9))) (k) (wt) (n + 1) (fun i => if i < n + 1 then some (hh i) else none) (n + 1) (fun i => if i < n + 1 then some (ff i) else none) (k) (ch) (8) (le) (n + 1) (fl)) ++ va_pl L (rowE cI rw)) := hD
            refine lv_pop hx hb d_V_rebuildByte_119 rfl ?_
            refine lv_iinc hx hb d_V_rebuildByte_120 hl (k := 6) rfl (v := nI (h + 1)) (ii_1 _) (Nat.le_of_ble_eq_true rfl) (lv' := [(5, .int (nI (h + 1))), (4, .int (((rb_i pr pf k nb lim g h ((rb_o pr pf k nb lim (tm_f sb wb) g (0, ar_f 0 k su, M)).1, tm_f sb wb g, (rb_o pr pf k nb lim (tm_f sb wb) g (0, ar_f 0 k su, M)).2.1, (rb_o pr pf k nb lim (tm_f sb wb) g (0, ar_f 0 k su, M)).2.2)).2.1) ^^^ (pc9))), (6, .int (pc9)), (0, .ref qv), (1, .int (nI x)), (2, .int (nI j)), (3, .int (nI (g)))]) rfl (fun ls hl => ?_)
            refine lv_goto (tgt := 35) hx hb d_V_rebuildByte_123 rfl ?_
            have hl := lv_sub hl (l' := [(0, .ref qv), (1, .int (nI x)), (2, .int (nI j)), (3, .int (nI (g))), (4, .int (((rb_i pr pf k nb lim g h ((rb_o pr pf k nb lim (tm_f sb wb) g (0, ar_f 0 k su, M)).1, tm_f sb wb g, (rb_o pr pf k nb lim (tm_f sb wb) g (0, ar_f 0 k su, M)).2.1, (rb_o pr pf k nb lim (tm_f sb wb) g (0, ar_f 0 k su, M)).2.2)).2.1) ^^^ (pc9))), (5, .int (nI (h + 1)))]) [3, 4, 5, 6, 1, 0] rfl
            subst ht2
            subst hpc
            exact ih35 _ (by omega) (h + 1) ls _ _ rfl (by omega) hl hP hD hS
          refine lv_iload hx hb d_V_rebuildByte_44 (lv_at hl 5 rfl) ?_
          refine lv_aload_n hx hb d_V_rebuildByte_46 rfl (lv_at hl 0 rfl) ?_
          refine va_get (D := D) (ci := 4) (v := .int (nI (k))) (C := R_V) (T := F_V) (N := 11) hx hb hts wl_V hown hK hP 0 rfl rfl 0 (by decide) (hts _ wf_V_43) (fun _ h9 => h9) rfl d_V_rebuildByte_47 ?_
          refine lv_iconst (v := 1) hx hb d_V_rebuildByte_50 (by decide) ?_
          refine lv_isub hx hb d_V_rebuildByte_51 ?_
          refine sd_top (y := nI (k - 1)) (ni_pred (by omega)) ?_
          refine lv_icmp_ge (tgt := 65) hx hb d_V_rebuildByte_52 rfl (fun hc52 => ?_) (fun hc52 => ?_)
          · skip
            rw [nI_leI (by omega) (by omega)] at hc52
            have hlt : ¬ h < k - 1 := by omega
            refine lv_iload hx hb d_V_rebuildByte_65 (lv_at hl 4 rfl) ?_
            have hl := lv_sub hl (l' := [(0, .ref qv), (1, .int (nI x)), (2, .int (nI j)), (3, .int (nI (g))), (4, .int ((rb_i pr pf k nb lim g h ((rb_o pr pf k nb lim (tm_f sb wb) g (0, ar_f 0 k su, M)).1, tm_f sb wb g, (rb_o pr pf k nb lim (tm_f sb wb) g (0, ar_f 0 k su, M)).2.1, (rb_o pr pf k nb lim (tm_f sb wb) g (0, ar_f 0 k su, M)).2.2)).2.1)), (5, .int (nI (h)))]) [0, 1, 2, 3, 4, 5] rfl
            exact join67 _ _ ls _ _ (by first | exact (if_pos hlt).symm | exact (if_neg hlt).symm) (by first | exact (if_pos hlt).symm | exact (if_neg hlt).symm) hl hP hD hS
          · skip
            rw [nI_leI (by omega) (by omega)] at hc52
            have hlt : h < k - 1 := by omega
            have hmin : min h (k - 1) = h := Nat.min_eq_left (by omega)
            refine lv_aload_n hx hb d_V_rebuildByte_55 rfl (lv_at hl 0 rfl) ?_
            refine va_get (D := D) (ci := 4) (v := .ref qp) (C := R_V) (T := F_V) (N := 11) hx hb hts wl_V hown hK hP 0 rfl rfl 2 (by decide) (hts _ wf_V_10) (fun _ h9 => h9) rfl d_V_rebuildByte_56 ?_
            refine sd_callVI (As := []) (rest := []) (cx := [(qp, .inr (0, [.ref qr, .int (nI ((pft pf (rb_i pr pf k nb lim g h ((rb_o pr pf k nb lim (tm_f sb wb) g (0, ar_f 0 k su, M)).1, tm_f sb wb g, (rb_o pr pf k nb lim (tm_f sb wb) g (0, ar_f 0 k su, M)).2.1, (rb_o pr pf k nb lim (tm_f sb wb) g (0, ar_f 0 k su, M)).2.2)).1))), .int (nI ((pn - (rb_i pr pf k nb lim g h ((rb_o pr pf k nb lim (tm_f sb wb) g (0, ar_f 0 k su, M)).1, tm_f sb wb g, (rb_o pr pf k nb lim (tm_f sb wb) g (0, ar_f 0 k su, M)).2.1, (rb_o pr pf k nb lim (tm_f sb wb) g (0, ar_f 0 k su, M)).2.2)).1)))])), (qr, .inl (cI, 1000, .inl (pr)))]) (w1 := [(qp, .inr (0, [.ref qr, .int (nI (((pft pf (rb_i pr pf k nb lim g h ((rb_o pr pf k nb lim (tm_f sb wb) g (0, ar_f 0 k su, M)).1, tm_f sb wb g, (rb_o pr pf k nb lim (tm_f sb wb) g (0, ar_f 0 k su, M)).2.1, (rb_o pr pf k nb lim (tm_f sb wb) g (0, ar_f 0 k su, M)).2.2)).1) + 1) % 1000)), .int (nI ((pn - (rb_i pr pf k nb lim g h ((rb_o pr pf k nb lim (tm_f sb wb) g (0, ar_f 0 k su, M)).1, tm_f sb wb g, (rb_o pr pf k nb lim (tm_f sb wb) g (0, ar_f 0 k su, M)).2.1, (rb_o pr pf k nb lim (tm_f sb wb) g (0, ar_f 0 k su, M)).2.2)).1) - 1))])), (qr, .inl (cI, 1000, .inl (pr)))]) (c_P_take l D cI cZ cQ (qp) (qr) (pft pf (rb_i pr pf k nb lim g h ((rb_o pr pf k nb lim (tm_f sb wb) g (0, ar_f 0 k su, M)).1, tm_f sb wb g, (rb_o pr pf k nb lim (tm_f sb wb) g (0, ar_f 0 k su, M)).2.1, (rb_o pr pf k nb lim (tm_f sb wb) g (0, ar_f 0 k su, M)).2.2)).1) (pn - (rb_i pr pf k nb lim g h ((rb_o pr pf k nb lim (tm_f sb wb) g (0, ar_f 0 k su, M)).1, tm_f sb wb g, (rb_o pr pf k nb lim (tm_f sb wb) g (0, ar_f 0 k su, M)).2.1, (rb_o pr pf k nb lim (tm_f sb wb) g (0, ar_f 0 k su, M)).2.2)).1) (pr) (pft_lt hpf) (by omega)) ⟨wc_P_take, wm_V_223, wi_P, by decide, by decide, show (parseMethodDescriptor y_P_take.desc).map (fun d => d.parameters.length) = some 0 by decide +kernel⟩ wo_P_take wz_P_take hx hb hml hown hts hl.1 ⟨Nat.le_of_ble_eq_true rfl, Nat.le_of_ble_eq_true rfl⟩ ⟨Nat.le_of_ble_eq_true rfl, Nat.le_of_ble_eq_true rfl⟩ hK hP hD hS hA [1, 2] rfl (by decide) rfl rfl (q0 := 0) rfl rfl rfl (Nat.le_of_ble_eq_true rfl) d_V_rebuildByte_59 (fun H locs hP hD hS => ?_)
            have hP : va_P D cls ((vW cI cQ cZ qv qp qr qj qg qs qh qn qu qw qH qF qc ql qf (nI (k)) (nI (n)) (ep) (nI (((pft pf (rb_i pr pf k nb lim g h ((rb_o pr pf k nb lim (tm_f sb wb) g (0, ar_f 0 k su, M)).1, tm_f sb wb g, (rb_o pr pf k nb lim (tm_f sb wb) g (0, ar_f 0 k su, M)).2.1, (rb_o pr pf k nb lim (tm_f sb wb) g (0, ar_f 0 k su, M)).2.2)).1) + 1) % 1000)) (nI ((pn - (rb_i pr pf k nb lim g h ((rb_o pr pf k nb lim (tm_f sb wb) g (0, ar_f 0 k su, M)).1, tm_f sb wb g, (rb_o pr pf k nb lim (tm_f sb wb) g (0, ar_f 0 k su, M)).2.1, (rb_o pr pf k nb lim (tm_f sb wb) g (0, ar_f 0 k su, M)).2.2)).1) - 1)) (1000) (pr) (wi) ((rb_i pr pf k nb lim g h ((rb_o pr pf k nb lim (tm_f sb wb) g (0, ar_f 0 k su, M)).1, tm_f sb wb g, (rb_o pr pf k nb lim (tm_f sb wb) g (0, ar_f 0 k su, M)).2.1, (rb_o pr pf k nb lim (tm_f sb wb) g (0, ar_f 0 k su, M)).2.2)).2.2.2.2.2.2) (hf) (nI (rb_i pr pf k nb lim g h ((rb_o pr pf k nb lim (tm_f sb wb) g (0, ar_f 0 k su, M)).1, tm_f sb wb g, (rb_o pr pf k nb lim (tm_f sb wb) g (0, ar_f 0 k su, M)).2.1, (rb_o pr pf k nb lim (tm_f sb wb) g (0, ar_f 0 k su, M)).2.2)).2.2.2.2.2.1) (lim) (nt) (lt) (nI ((rb_i pr pf k nb lim g h ((rb_o pr pf k nb lim (tm_f sb wb) g (0, ar_f 0 k su, M)).1, tm_f sb wb g, (rb_o pr pf k nb lim (tm_f sb wb) g (0, ar_f 0 k su, M)).2.1, (rb_o pr pf k nb lim (tm_f sb wb) g (0, ar_f 0 k su, M)).2.2)).2.2.2.1)) (192) ((rb_i pr pf k nb lim g h ((rb_o pr pf k nb lim (tm_f sb wb) g (0, ar_f 0 k su, M)).1, tm_f sb wb g, (rb_o pr pf k nb lim (tm_f sb wb) g (0, ar_f 0 k su, M)).2.1, (rb_o pr pf k nb lim (tm_f sb wb) g (0, ar_f 0 k su, M)).2.2)).2.2.2.2.1) (k) (nb) (k) ((rb_i pr pf k nb lim g h ((rb_o pr pf k nb lim (tm_f sb wb) g (0, ar_f 0 k su, M)).1, tm_f sb wb g, (rb_o pr pf k nb lim (tm_f sb wb) g (0, ar_f 0 k su, M)).2.1, (rb_o pr pf k nb lim (tm_f sb wb) g (0, ar_f 0 k su, M)).2.2)).2.2.1) (k) (wt) (n + 1) (fun i => if i < n + 1 then some (hh i) else none) (n + 1) (fun i => if i < n + 1 then some (ff i) else none) (k) (ch) (8) (le) (n + 1) (fl)) ++ va_pl L (rowE cI rw)) H := hP
            have hD : va_D A ((vW cI cQ cZ qv qp qr qj qg qs qh qn qu qw qH qF qc ql qf (nI (k)) (nI (n)) (ep) (nI (((pft pf (rb_i pr pf k nb lim g h ((rb_o pr pf k nb lim (tm_f sb wb) g (0, ar_f 0 k su, M)).1, tm_f sb wb g, (rb_o pr pf k nb lim (tm_f sb wb) g (0, ar_f 0 k su, M)).2.1, (rb_o pr pf k nb lim (tm_f sb wb) g (0, ar_f 0 k su, M)).2.2)).1) + 1) % 1000)) (nI ((pn - (rb_i pr pf k nb lim g h ((rb_o pr pf k nb lim (tm_f sb wb) g (0, ar_f 0 k su, M)).1, tm_f sb wb g, (rb_o pr pf k nb lim (tm_f sb wb) g (0, ar_f 0 k su, M)).2.1, (rb_o pr pf k nb lim (tm_f sb wb) g (0, ar_f 0 k su, M)).2.2)).1) - 1)) (1000) (pr) (wi) ((rb_i pr pf k nb lim g h ((rb_o pr pf k nb lim (tm_f sb wb) g (0, ar_f 0 k su, M)).1, tm_f sb wb g, (rb_o pr pf k nb lim (tm_f sb wb) g (0, ar_f 0 k su, M)).2.1, (rb_o pr pf k nb lim (tm_f sb wb) g (0, ar_f 0 k su, M)).2.2)).2.2.2.2.2.2) (hf) (nI (rb_i pr pf k nb lim g h ((rb_o pr pf k nb lim (tm_f sb wb) g (0, ar_f 0 k su, M)).1, tm_f sb wb g, (rb_o pr pf k nb lim (tm_f sb wb) g (0, ar_f 0 k su, M)).2.1, (rb_o pr pf k nb lim (tm_f sb wb) g (0, ar_f 0 k su, M)).2.2)).2.2.2.2.2.1) (lim) (nt) (lt) (nI ((rb_i pr pf k nb lim g h ((rb_o pr pf k nb lim (tm_f sb wb) g (0, ar_f 0 k su, M)).1, tm_f sb wb g, (rb_o pr pf k nb lim (tm_f sb wb) g (0, ar_f 0 k su, M)).2.1, (rb_o pr pf k nb lim (tm_f sb wb) g (0, ar_f 0 k su, M)).2.2)).2.2.2.1)) (192) ((rb_i pr pf k nb lim g h ((rb_o pr pf k nb lim (tm_f sb wb) g (0, ar_f 0 k su, M)).1, tm_f sb wb g, (rb_o pr pf k nb lim (tm_f sb wb) g (0, ar_f 0 k su, M)).2.1, (rb_o pr pf k nb lim (tm_f sb wb) g (0, ar_f 0 k su, M)).2.2)).2.2.2.2.1) (k) (nb) (k) ((rb_i pr pf k nb lim g h ((rb_o pr pf k nb lim (tm_f sb wb) g (0, ar_f 0 k su, M)).1, tm_f sb wb g, (rb_o pr pf k nb lim (tm_f sb wb) g (0, ar_f 0 k su, M)).2.1, (rb_o pr pf k nb lim (tm_f sb wb) g (0, ar_f 0 k su, M)).2.2)).2.2.1) (k) (wt) (n + 1) (fun i => if i < n + 1 then some (hh i) else none) (n + 1) (fun i => if i < n + 1 then some (ff i) else none) (k) (ch) (8) (le) (n + 1) (fl)) ++ va_pl L (rowE cI rw)) := hD
            have hP : va_P D cls ((vW cI cQ cZ qv qp qr qj qg qs qh qn qu qw qH qF qc ql qf (nI (k)) (nI (n)) (ep) (nI (pft pf ((rb_i pr pf k nb lim g h ((rb_o pr pf k nb lim (tm_f sb wb) g (0, ar_f 0 k su, M)).1, tm_f sb wb g, (rb_o pr pf k nb lim (tm_f sb wb) g (0, ar_f 0 k su, M)).2.1, (rb_o pr pf k nb lim (tm_f sb wb) g (0, ar_f 0 k su, M)).2.2)).1 + 1))) (nI (pn - ((rb_i pr pf k nb lim g h ((rb_o pr pf k nb lim (tm_f sb wb) g (0, ar_f 0 k su, M)).1, tm_f sb wb g, (rb_o pr pf k nb lim (tm_f sb wb) g (0, ar_f 0 k su, M)).2.1, (rb_o pr pf k nb lim (tm_f sb wb) g (0, ar_f 0 k su, M)).2.2)).1 + 1))) (1000) (pr) (wi) ((rb_i pr pf k nb lim g h ((rb_o pr pf k nb lim (tm_f sb wb) g (0, ar_f 0 k su, M)).1, tm_f sb wb g, (rb_o pr pf k nb lim (tm_f sb wb) g (0, ar_f 0 k su, M)).2.1, (rb_o pr pf k nb lim (tm_f sb wb) g (0, ar_f 0 k su, M)).2.2)).2.2.2.2.2.2) (hf) (nI (rb_i pr pf k nb lim g h ((rb_o pr pf k nb lim (tm_f sb wb) g (0, ar_f 0 k su, M)).1, tm_f sb wb g, (rb_o pr pf k nb lim (tm_f sb wb) g (0, ar_f 0 k su, M)).2.1, (rb_o pr pf k nb lim (tm_f sb wb) g (0, ar_f 0 k su, M)).2.2)).2.2.2.2.2.1) (lim) (nt) (lt) (nI ((rb_i pr pf k nb lim g h ((rb_o pr pf k nb lim (tm_f sb wb) g (0, ar_f 0 k su, M)).1, tm_f sb wb g, (rb_o pr pf k nb lim (tm_f sb wb) g (0, ar_f 0 k su, M)).2.1, (rb_o pr pf k nb lim (tm_f sb wb) g (0, ar_f 0 k su, M)).2.2)).2.2.2.1)) (192) ((rb_i pr pf k nb lim g h ((rb_o pr pf k nb lim (tm_f sb wb) g (0, ar_f 0 k su, M)).1, tm_f sb wb g, (rb_o pr pf k nb lim (tm_f sb wb) g (0, ar_f 0 k su, M)).2.1, (rb_o pr pf k nb lim (tm_f sb wb) g (0, ar_f 0 k su, M)).2.2)).2.2.2.2.1) (k) (nb) (k) ((rb_i pr pf k nb lim g h ((rb_o pr pf k nb lim (tm_f sb wb) g (0, ar_f 0 k su, M)).1, tm_f sb wb g, (rb_o pr pf k nb lim (tm_f sb wb) g (0, ar_f 0 k su, M)).2.1, (rb_o pr pf k nb lim (tm_f sb wb) g (0, ar_f 0 k su, M)).2.2)).2.2.1) (k) (wt) (n + 1) (fun i => if i < n + 1 then some (hh i) else none) (n + 1) (fun i => if i < n + 1 then some (ff i) else none) (k) (ch) (8) (le) (n + 1) (fl)) ++ va_pl L (rowE cI rw)) H := by first | exact hP | (rw [← Nat.sub_sub]; exact hP)
            have hD : va_D A ((vW cI cQ cZ qv qp qr qj qg qs qh qn qu qw qH qF qc ql qf (nI (k)) (nI (n)) (ep) (nI (pft pf ((rb_i pr pf k nb lim g h ((rb_o pr pf k nb lim (tm_f sb wb) g (0, ar_f 0 k su, M)).1, tm_f sb wb g, (rb_o pr pf k nb lim (tm_f sb wb) g (0, ar_f 0 k su, M)).2.1, (rb_o pr pf k nb lim (tm_f sb wb) g (0, ar_f 0 k su, M)).2.2)).1 + 1))) (nI (pn - ((rb_i pr pf k nb lim g h ((rb_o pr pf k nb lim (tm_f sb wb) g (0, ar_f 0 k su, M)).1, tm_f sb wb g, (rb_o pr pf k nb lim (tm_f sb wb) g (0, ar_f 0 k su, M)).2.1, (rb_o pr pf k nb lim (tm_f sb wb) g (0, ar_f 0 k su, M)).2.2)).1 + 1))) (1000) (pr) (wi) ((rb_i pr pf k nb lim g h ((rb_o pr pf k nb lim (tm_f sb wb) g (0, ar_f 0 k su, M)).1, tm_f sb wb g, (rb_o pr pf k nb lim (tm_f sb wb) g (0, ar_f 0 k su, M)).2.1, (rb_o pr pf k nb lim (tm_f sb wb) g (0, ar_f 0 k su, M)).2.2)).2.2.2.2.2.2) (hf) (nI (rb_i pr pf k nb lim g h ((rb_o pr pf k nb lim (tm_f sb wb) g (0, ar_f 0 k su, M)).1, tm_f sb wb g, (rb_o pr pf k nb lim (tm_f sb wb) g (0, ar_f 0 k su, M)).2.1, (rb_o pr pf k nb lim (tm_f sb wb) g (0, ar_f 0 k su, M)).2.2)).2.2.2.2.2.1) (lim) (nt) (lt) (nI ((rb_i pr pf k nb lim g h ((rb_o pr pf k nb lim (tm_f sb wb) g (0, ar_f 0 k su, M)).1, tm_f sb wb g, (rb_o pr pf k nb lim (tm_f sb wb) g (0, ar_f 0 k su, M)).2.1, (rb_o pr pf k nb lim (tm_f sb wb) g (0, ar_f 0 k su, M)).2.2)).2.2.2.1)) (192) ((rb_i pr pf k nb lim g h ((rb_o pr pf k nb lim (tm_f sb wb) g (0, ar_f 0 k su, M)).1, tm_f sb wb g, (rb_o pr pf k nb lim (tm_f sb wb) g (0, ar_f 0 k su, M)).2.1, (rb_o pr pf k nb lim (tm_f sb wb) g (0, ar_f 0 k su, M)).2.2)).2.2.2.2.1) (k) (nb) (k) ((rb_i pr pf k nb lim g h ((rb_o pr pf k nb lim (tm_f sb wb) g (0, ar_f 0 k su, M)).1, tm_f sb wb g, (rb_o pr pf k nb lim (tm_f sb wb) g (0, ar_f 0 k su, M)).2.1, (rb_o pr pf k nb lim (tm_f sb wb) g (0, ar_f 0 k su, M)).2.2)).2.2.1) (k) (wt) (n + 1) (fun i => if i < n + 1 then some (hh i) else none) (n + 1) (fun i => if i < n + 1 then some (ff i) else none) (k) (ch) (8) (le) (n + 1) (fl)) ++ va_pl L (rowE cI rw)) := by first | exact hD | (rw [← Nat.sub_sub]; exact hD)
            refine lv_goto (tgt := 67) hx hb d_V_rebuildByte_62 rfl ?_
            have hl := lv_sub hl (l' := [(0, .ref qv), (1, .int (nI x)), (2, .int (nI j)), (3, .int (nI (g))), (4, .int ((rb_i pr pf k nb lim g h ((rb_o pr pf k nb lim (tm_f sb wb) g (0, ar_f 0 k su, M)).1, tm_f sb wb g, (rb_o pr pf k nb lim (tm_f sb wb) g (0, ar_f 0 k su, M)).2.1, (rb_o pr pf k nb lim (tm_f sb wb) g (0, ar_f 0 k su, M)).2.2)).2.1)), (5, .int (nI (h)))]) [0, 1, 2, 3, 4, 5] rfl
            exact join67 _ _ ls _ _ (by first | exact (if_pos hlt).symm | exact (if_neg hlt).symm) (by first | exact (if_pos hlt).symm | exact (if_neg hlt).symm) hl hP hD hS
      exact loop35 _ (0) ls _ _ rfl (Nat.zero_le _) hl hP hD hS
  exact loop9 _ (0) ls _ _ rfl (Nat.zero_le _) hl hP hD hS
set_option maxHeartbeats 4000000 in
set_option maxRecDepth 100000 in
theorem c_V_resume_0 (l : Launch) (D : va_G) (cI cZ cQ : ClassId) (qv : Nat) (qp : Nat) (qr : Nat) (qj : Nat) (qg : Nat) (qs : Nat) (qh : Nat) (qn : Nat) (qu : Nat) (qw : Nat) (qH : Nat) (qF : Nat) (qc : Nat) (ql : Nat) (qf : Nat) (k : Nat) (n : Nat) (pf : Nat) (pn : Nat) (pr : Nat → Int32) (wi : Int32) (M : ms_T) (hf : Int32) (lim : Int32) (nt : Int32) (lt : Int32) (nb : Nat → Int32) (su : Nat → Int32) (wt : Nat → Int32) (ch : Nat → Int32) (le : Nat → Int32) (fl : Nat → Int32) (ep : Int32) (L : List Nat) (hh : Nat → Nat) (ff : Nat → Nat) (rw : Nat → Nat → Int32) (hk : k < 2 ^ 20) (hn : n < 2 ^ 20) (hhL : ∀ i, i < n + 1 → hh i ∈ L) (ffL : ∀ i, i < n + 1 → ff i ∈ L) (hs : M.2.2.2 = 0) : sd_I l D (tyL cI cZ cQ) y_V_resume b_V_resume 1 (.int) ({ frames := 0, cells := 0, slots := 0, locals := 0 }) [.ref qv] ((vW cI cQ cZ qv qp qr qj qg qs qh qn qu qw qH qF qc ql qf (nI (k)) (nI (n)) (ep) (nI (pf)) (nI (pn)) (1000) (pr) (wi) (M.2.2.2) (hf) (nI M.2.2.1) (lim) (nt) (lt) (nI (M.1)) (192) (M.2.1) (k) (nb) (k) (su) (k) (wt) (n + 1) (fun i => if i < n + 1 then some (hh i) else none) (n + 1) (fun i => if i < n + 1 then some (ff i) else none) (k) (ch) (8) (le) (n + 1) (fl)) ++ va_pl L (rowE cI rw)) (0) ((vW cI cQ cZ qv qp qr qj qg qs qh qn qu qw qH qF qc ql qf (nI (k)) (nI (n)) (ep) (nI (pf)) (nI (pn)) (1000) (pr) (wi) (M.2.2.2) (hf) (nI M.2.2.1) (lim) (nt) (lt) (nI (M.1)) (192) (M.2.1) (k) (nb) (k) (su) (k) (wt) (n + 1) (fun i => if i < n + 1 then some (hh i) else none) (n + 1) (fun i => if i < n + 1 then some (ff i) else none) (k) (ch) (8) (le) (n + 1) (fl)) ++ va_pl L (rowE cI rw)) := by
  refine sd_ofI (by decide) (Nat.le_of_ble_eq_true rfl) ?_
  intro p e s m below meth c A ls hx hb hr hml hlk hown hts hK hP hD hA hS hl
  have hl : lv_has ls 1 [(0, .ref qv)] := hl
  refine lv_aload_n hx hb d_V_resume_0 rfl (lv_at hl 0 rfl) ?_
  refine va_get (D := D) (ci := 4) (v := .ref qj) (C := R_V) (T := F_V) (N := 11) hx hb hts wl_V hown hK hP 0 rfl rfl 3 (by decide) (hts _ wf_V_19) (fun _ h9 => h9) rfl d_V_resume_1 ?_
  refine va_get (D := D) (ci := 2) (v := .int (M.2.2.2)) (C := R_J) (T := F_J) (N := 8) hx hb hts wl_J hown hK hP 3 rfl rfl 2 (by decide) (hts _ wf_V_177) (fun _ h9 => h9) rfl d_V_resume_4 ?_
  refine lv_if_ne (tgt := 12) hx hb d_V_resume_7 rfl (fun hc7 => ?_) (fun hc7 => ?_)
  · skip
    exact absurd hs hc7
  · skip
    refine lv_iconst (v := 0) hx hb d_V_resume_10 (by decide) ?_
    exact sd_iret hx hb hr hlk hP hS (Nat.le_of_ble_eq_true rfl) (Nat.le_of_ble_eq_true rfl) (rfl) d_V_resume_11
set_option maxHeartbeats 4000000 in
set_option maxRecDepth 100000 in
theorem c_V_resume_1 (l : Launch) (D : va_G) (cI cZ cQ : ClassId) (qv : Nat) (qp : Nat) (qr : Nat) (qj : Nat) (qg : Nat) (qs : Nat) (qh : Nat) (qn : Nat) (qu : Nat) (qw : Nat) (qH : Nat) (qF : Nat) (qc : Nat) (ql : Nat) (qf : Nat) (k : Nat) (n : Nat) (pf : Nat) (pn : Nat) (pr : Nat → Int32) (wi : Int32) (M : ms_T) (hf : Int32) (lim : Int32) (nt : Int32) (lt : Int32) (nb : Nat → Int32) (su : Nat → Int32) (wt : Nat → Int32) (ch : Nat → Int32) (le : Nat → Int32) (fl : Nat → Int32) (ep : Int32) (L : List Nat) (hh : Nat → Nat) (ff : Nat → Nat) (rw : Nat → Nat → Int32) (hk : k < 2 ^ 20) (hn : n < 2 ^ 20) (hhL : ∀ i, i < n + 1 → hh i ∈ L) (ffL : ∀ i, i < n + 1 → ff i ∈ L) (hs : ¬ M.2.2.2 = 0) (hfl : hf = 0) : sd_I l D (tyL cI cZ cQ) y_V_resume b_V_resume 1 (.int) ({ frames := 0, cells := 0, slots := 0, locals := 0 }) [.ref qv] ((vW cI cQ cZ qv qp qr qj qg qs qh qn qu qw qH qF qc ql qf (nI (k)) (nI (n)) (ep) (nI (pf)) (nI (pn)) (1000) (pr) (wi) (M.2.2.2) (hf) (nI M.2.2.1) (lim) (nt) (lt) (nI (M.1)) (192) (M.2.1) (k) (nb) (k) (su) (k) (wt) (n + 1) (fun i => if i < n + 1 then some (hh i) else none) (n + 1) (fun i => if i < n + 1 then some (ff i) else none) (k) (ch) (8) (le) (n + 1) (fl)) ++ va_pl L (rowE cI rw)) (1) ((vW cI cQ cZ qv qp qr qj qg qs qh qn qu qw qH qF qc ql qf (nI (k)) (nI (n)) (ep) (nI (pf)) (nI (pn)) (1000) (pr) (wi) ((ms_u M).2.2.2) (hf) (nI (ms_u M).2.2.1) (lim) (nt) (lt) (nI ((ms_u M).1)) (192) ((ms_u M).2.1) (k) (nb) (k) (su) (k) (wt) (n + 1) (fun i => if i < n + 1 then some (hh i) else none) (n + 1) (fun i => if i < n + 1 then some (ff i) else none) (k) (ch) (8) (le) (n + 1) (fl)) ++ va_pl L (rowE cI rw)) := by
  refine sd_ofI (by decide) (Nat.le_of_ble_eq_true rfl) ?_
  intro p e s m below meth c A ls hx hb hr hml hlk hown hts hK hP hD hA hS hl
  have hl : lv_has ls 1 [(0, .ref qv)] := hl
  refine lv_aload_n hx hb d_V_resume_0 rfl (lv_at hl 0 rfl) ?_
  refine va_get (D := D) (ci := 4) (v := .ref qj) (C := R_V) (T := F_V) (N := 11) hx hb hts wl_V hown hK hP 0 rfl rfl 3 (by decide) (hts _ wf_V_19) (fun _ h9 => h9) rfl d_V_resume_1 ?_
  refine va_get (D := D) (ci := 2) (v := .int (M.2.2.2)) (C := R_J) (T := F_J) (N := 8) hx hb hts wl_J hown hK hP 3 rfl rfl 2 (by decide) (hts _ wf_V_177) (fun _ h9 => h9) rfl d_V_resume_4 ?_
  refine lv_if_ne (tgt := 12) hx hb d_V_resume_7 rfl (fun hc7 => ?_) (fun hc7 => ?_)
  · skip
    refine lv_aload_n hx hb d_V_resume_12 rfl (lv_at hl 0 rfl) ?_
    refine va_get (D := D) (ci := 4) (v := .ref qj) (C := R_V) (T := F_V) (N := 11) hx hb hts wl_V hown hK hP 0 rfl rfl 3 (by decide) (hts _ wf_V_19) (fun _ h9 => h9) rfl d_V_resume_13 ?_
    refine va_get (D := D) (ci := 2) (v := .int (hf)) (C := R_J) (T := F_J) (N := 8) hx hb hts wl_J hown hK hP 3 rfl rfl 3 (by decide) (hts _ wf_V_181) (fun _ h9 => h9) rfl d_V_resume_16 ?_
    refine lv_if_ne (tgt := 32) hx hb d_V_resume_19 rfl (fun hc19 => ?_) (fun hc19 => ?_)
    · skip
      exact absurd hfl hc19
    · skip
      refine lv_aload_n hx hb d_V_resume_22 rfl (lv_at hl 0 rfl) ?_
      refine va_get (D := D) (ci := 4) (v := .ref qj) (C := R_V) (T := F_V) (N := 11) hx hb hts wl_V hown hK hP 0 rfl rfl 3 (by decide) (hts _ wf_V_19) (fun _ h9 => h9) rfl d_V_resume_23 ?_
      refine lv_iconst (v := 0) hx hb d_V_resume_26 (by decide) ?_
      refine va_put (D := D) (ci := 2) (v := .int (0)) (ty := .boolean) (C := R_J) (T := F_J) (N := 8) hx hb hts wl_J t_J t_J_ok n_J hown hK hP hD hS 3 rfl rfl 2 (by decide) (hts _ wf_V_177) (fun _ h9 => h9) rfl (by decide +kernel) rfl rfl (Nat.le_of_ble_eq_true rfl) d_V_resume_27 (fun H locs hP hD hS => ?_)
      have hP : va_P D cls ((vW cI cQ cZ qv qp qr qj qg qs qh qn qu qw qH qF qc ql qf (nI (k)) (nI (n)) (ep) (nI (pf)) (nI (pn)) (1000) (pr) (wi) (0) (hf) (nI M.2.2.1) (lim) (nt) (lt) (nI (M.1)) (192) (M.2.1) (k) (nb) (k) (su) (k) (wt) (n + 1) (fun i => if i < n + 1 then some (hh i) else none) (n + 1) (fun i => if i < n + 1 then some (ff i) else none) (k) (ch) (8) (le) (n + 1) (fl)) ++ va_pl L (rowE cI rw)) H := hP
      have hD : va_D A ((vW cI cQ cZ qv qp qr qj qg qs qh qn qu qw qH qF qc ql qf (nI (k)) (nI (n)) (ep) (nI (pf)) (nI (pn)) (1000) (pr) (wi) (0) (hf) (nI M.2.2.1) (lim) (nt) (lt) (nI (M.1)) (192) (M.2.1) (k) (nb) (k) (su) (k) (wt) (n + 1) (fun i => if i < n + 1 then some (hh i) else none) (n + 1) (fun i => if i < n + 1 then some (ff i) else none) (k) (ch) (8) (le) (n + 1) (fl)) ++ va_pl L (rowE cI rw)) := hD
      refine lv_iconst (v := 1) hx hb d_V_resume_30 (by decide) ?_
      have hP : va_P D cls ((vW cI cQ cZ qv qp qr qj qg qs qh qn qu qw qH qF qc ql qf (nI (k)) (nI (n)) (ep) (nI (pf)) (nI (pn)) (1000) (pr) (wi) ((ms_u M).2.2.2) (hf) (nI (ms_u M).2.2.1) (lim) (nt) (lt) (nI ((ms_u M).1)) (192) ((ms_u M).2.1) (k) (nb) (k) (su) (k) (wt) (n + 1) (fun i => if i < n + 1 then some (hh i) else none) (n + 1) (fun i => if i < n + 1 then some (ff i) else none) (k) (ch) (8) (le) (n + 1) (fl)) ++ va_pl L (rowE cI rw)) H := hP
      exact sd_iret hx hb hr hlk hP hS (Nat.le_of_ble_eq_true rfl) (Nat.le_of_ble_eq_true rfl) (rfl) d_V_resume_31
  · skip
    exact absurd hc7 hs
set_option maxHeartbeats 4000000 in
set_option maxRecDepth 100000 in
theorem c_V_resume_2 (l : Launch) (D : va_G) (cI cZ cQ : ClassId) (qv : Nat) (qp : Nat) (qr : Nat) (qj : Nat) (qg : Nat) (qs : Nat) (qh : Nat) (qn : Nat) (qu : Nat) (qw : Nat) (qH : Nat) (qF : Nat) (qc : Nat) (ql : Nat) (qf : Nat) (k : Nat) (n : Nat) (pf : Nat) (pn : Nat) (pr : Nat → Int32) (wi : Int32) (M : ms_T) (hf : Int32) (lim : Int32) (nb : Nat → Int32) (su : Nat → Int32) (wt : Nat → Int32) (ch : Nat → Int32) (le : Nat → Int32) (fl : Nat → Int32) (ep : Int32) (L : List Nat) (hh : Nat → Nat) (ff : Nat → Nat) (rw : Nat → Nat → Int32) (f : Nat) (g : Nat) (hk : k < 2 ^ 20) (hn : n < 2 ^ 20) (hhL : ∀ i, i < n + 1 → hh i ∈ L) (ffL : ∀ i, i < n + 1 → ff i ∈ L) (hT : M.1 + (g + 1 - f) < 2 ^ 31) (hf1 : f < 2 ^ 30) (hg1 : g < 2 ^ 30) (hs : ¬ M.2.2.2 = 0) (hfl : ¬ hf = 0) : sd_I l D (tyL cI cZ cQ) y_V_resume b_V_resume 1 (.int) ({ frames := 4, cells := 0, slots := 0, locals := 90 }) [.ref qv] ((vW cI cQ cZ qv qp qr qj qg qs qh qn qu qw qH qF qc ql qf (nI (k)) (nI (n)) (ep) (nI (pf)) (nI (pn)) (1000) (pr) (wi) (M.2.2.2) (hf) (nI M.2.2.1) (lim) (nI f) (nI g) (nI (M.1)) (192) (M.2.1) (k) (nb) (k) (su) (k) (wt) (n + 1) (fun i => if i < n + 1 then some (hh i) else none) (n + 1) (fun i => if i < n + 1 then some (ff i) else none) (k) (ch) (8) (le) (n + 1) (fl)) ++ va_pl L (rowE cI rw)) (2) ((vW cI cQ cZ qv qp qr qj qg qs qh qn qu qw qH qF qc ql qf (nI (k)) (nI (n)) (ep) (nI (pf)) (nI (pn)) (1000) (pr) (wi) ((ms_t (-1) (g + 1 - f) f (ms_u M)).2.2.2) (hf) (nI (ms_t (-1) (g + 1 - f) f (ms_u M)).2.2.1) ((-1)) (nI (ms_n (-1) (g + 1 - f) f (ms_u M) f)) (nI g) (nI ((ms_t (-1) (g + 1 - f) f (ms_u M)).1)) (192) ((ms_t (-1) (g + 1 - f) f (ms_u M)).2.1) (k) (nb) (k) (su) (k) (wt) (n + 1) (fun i => if i < n + 1 then some (hh i) else none) (n + 1) (fun i => if i < n + 1 then some (ff i) else none) (k) (ch) (8) (le) (n + 1) (fl)) ++ va_pl L (rowE cI rw)) := by
  refine sd_ofI (by decide) (Nat.le_of_ble_eq_true rfl) ?_
  intro p e s m below meth c A ls hx hb hr hml hlk hown hts hK hP hD hA hS hl
  have hl : lv_has ls 1 [(0, .ref qv)] := hl
  refine lv_aload_n hx hb d_V_resume_0 rfl (lv_at hl 0 rfl) ?_
  refine va_get (D := D) (ci := 4) (v := .ref qj) (C := R_V) (T := F_V) (N := 11) hx hb hts wl_V hown hK hP 0 rfl rfl 3 (by decide) (hts _ wf_V_19) (fun _ h9 => h9) rfl d_V_resume_1 ?_
  refine va_get (D := D) (ci := 2) (v := .int (M.2.2.2)) (C := R_J) (T := F_J) (N := 8) hx hb hts wl_J hown hK hP 3 rfl rfl 2 (by decide) (hts _ wf_V_177) (fun _ h9 => h9) rfl d_V_resume_4 ?_
  refine lv_if_ne (tgt := 12) hx hb d_V_resume_7 rfl (fun hc7 => ?_) (fun hc7 => ?_)
  · skip
    refine lv_aload_n hx hb d_V_resume_12 rfl (lv_at hl 0 rfl) ?_
    refine va_get (D := D) (ci := 4) (v := .ref qj) (C := R_V) (T := F_V) (N := 11) hx hb hts wl_V hown hK hP 0 rfl rfl 3 (by decide) (hts _ wf_V_19) (fun _ h9 => h9) rfl d_V_resume_13 ?_
    refine va_get (D := D) (ci := 2) (v := .int (hf)) (C := R_J) (T := F_J) (N := 8) hx hb hts wl_J hown hK hP 3 rfl rfl 3 (by decide) (hts _ wf_V_181) (fun _ h9 => h9) rfl d_V_resume_16 ?_
    refine lv_if_ne (tgt := 32) hx hb d_V_resume_19 rfl (fun hc19 => ?_) (fun hc19 => ?_)
    · skip
      refine lv_aload_n hx hb d_V_resume_32 rfl (lv_at hl 0 rfl) ?_
      refine va_get (D := D) (ci := 4) (v := .ref qj) (C := R_V) (T := F_V) (N := 11) hx hb hts wl_V hown hK hP 0 rfl rfl 3 (by decide) (hts _ wf_V_19) (fun _ h9 => h9) rfl d_V_resume_33 ?_
      refine sd_callVV (As := []) (rest := []) (cx := [(qj, .inr (2, [.ref qg, .int (wi), .int (M.2.2.2), .int (hf), .int (nI M.2.2.1), .int (lim), .int (nI f), .int (nI g)])), (qg, .inr (1, [.ref qs, .int (nI (M.1))])), (qs, .inl (cI, 192, .inl (M.2.1)))]) (w1 := [(qj, .inr (2, [.ref qg, .int (wi), .int ((ms_t (-1) (g + 1 - f) f (ms_u M)).2.2.2), .int (hf), .int (nI (ms_t (-1) (g + 1 - f) f (ms_u M)).2.2.1), .int ((-1)), .int (nI (ms_n (-1) (g + 1 - f) f (ms_u M) f)), .int (nI g)])), (qg, .inr (1, [.ref qs, .int (nI ((ms_t (-1) (g + 1 - f) f (ms_u M)).1))])), (qs, .inl (cI, 192, .inl ((ms_t (-1) (g + 1 - f) f (ms_u M)).2.1)))]) (c_J_finish l D cI cZ cQ (qj) (qg) (qs) (wi) (M) (hf) (lim) (f) (g) (hT) (hf1) (hg1)) ⟨wc_J_finish, wm_V_184, wi_J, by decide, by decide, show (parseMethodDescriptor y_J_finish.desc).map (fun d => d.parameters.length) = some 0 by decide +kernel⟩ wo_J_finish wz_J_finish hx hb hml hown hts hl.1 ⟨Nat.le_of_ble_eq_true rfl, Nat.le_of_ble_eq_true rfl⟩ ⟨Nat.le_of_ble_eq_true rfl, Nat.le_of_ble_eq_true rfl⟩ hK hP hD hS hA [3, 4, 5] rfl (by decide) rfl rfl (q0 := 0) rfl rfl rfl (Nat.le_of_ble_eq_true rfl) d_V_resume_36 (fun H locs hP hD hS => ?_)
      have hP : va_P D cls ((vW cI cQ cZ qv qp qr qj qg qs qh qn qu qw qH qF qc ql qf (nI (k)) (nI (n)) (ep) (nI (pf)) (nI (pn)) (1000) (pr) (wi) ((ms_t (-1) (g + 1 - f) f (ms_u M)).2.2.2) (hf) (nI (ms_t (-1) (g + 1 - f) f (ms_u M)).2.2.1) ((-1)) (nI (ms_n (-1) (g + 1 - f) f (ms_u M) f)) (nI g) (nI ((ms_t (-1) (g + 1 - f) f (ms_u M)).1)) (192) ((ms_t (-1) (g + 1 - f) f (ms_u M)).2.1) (k) (nb) (k) (su) (k) (wt) (n + 1) (fun i => if i < n + 1 then some (hh i) else none) (n + 1) (fun i => if i < n + 1 then some (ff i) else none) (k) (ch) (8) (le) (n + 1) (fl)) ++ va_pl L (rowE cI rw)) H := hP
      have hD : va_D A ((vW cI cQ cZ qv qp qr qj qg qs qh qn qu qw qH qF qc ql qf (nI (k)) (nI (n)) (ep) (nI (pf)) (nI (pn)) (1000) (pr) (wi) ((ms_t (-1) (g + 1 - f) f (ms_u M)).2.2.2) (hf) (nI (ms_t (-1) (g + 1 - f) f (ms_u M)).2.2.1) ((-1)) (nI (ms_n (-1) (g + 1 - f) f (ms_u M) f)) (nI g) (nI ((ms_t (-1) (g + 1 - f) f (ms_u M)).1)) (192) ((ms_t (-1) (g + 1 - f) f (ms_u M)).2.1) (k) (nb) (k) (su) (k) (wt) (n + 1) (fun i => if i < n + 1 then some (hh i) else none) (n + 1) (fun i => if i < n + 1 then some (ff i) else none) (k) (ch) (8) (le) (n + 1) (fl)) ++ va_pl L (rowE cI rw)) := hD
      refine lv_iconst (v := 2) hx hb d_V_resume_39 (by decide) ?_
      exact sd_iret hx hb hr hlk hP hS (Nat.le_of_ble_eq_true rfl) (Nat.le_of_ble_eq_true rfl) (rfl) d_V_resume_40
    · skip
      exact absurd hc19 hfl
  · skip
    exact absurd hc7 hs
end
section
/-! the reference's messages: (sent, the ring, left, cut) -/
abbrev mm_T : Type := Nat × (Nat → Int32) × Int32 × Int32
abbrev mW (cI cZ : ClassId) (qm mp mt ml mc mf me mg mh mu : Nat) (x0_0 : Int32) (x0_1 : Int32) (x0_2 : Int32) (x0_3 : Int32) (x0_6 : Int32) (x0_10 : Int32) (x0_12 : Int32) (x0_14 : Int32) (x0_15 : Int32) (x0_16 : Int32) (x0_17 : Int32) (x0_18 : Int32) (x0_19 : Int32) (x0_20 : Int32) (x0_21 : Int32) (x0_22 : Int32) (x0_23 : Int32) (z1 : Nat) (f1 : Nat → Int32) (z2 : Nat) (f2 : Nat → Int32) (z3 : Nat) (f3 : Nat → Int32) (z4 : Nat) (f4 : Nat → Int32) (z5 : Nat) (f5 : Nat → Int32) (z6 : Nat) (f6 : Nat → Int32) (z7 : Nat) (f7 : Nat → Int32) (z8 : Nat) (f8 : Nat → Int32) (z9 : Nat) (f9 : Nat → Int32) : va_W := [(qm, .inr (5, [.int x0_0, .int x0_1, .int x0_2, .int x0_3, .ref mp, .ref mt, .int x0_6, .ref ml, .ref mc, .ref mf, .int x0_10, .ref me, .int x0_12, .ref mg, .int x0_14, .int x0_15, .int x0_16, .int x0_17, .int x0_18, .int x0_19, .int x0_20, .int x0_21, .int x0_22, .int x0_23, .ref mh, .ref mu])), (mp, .inl (cI, z1, .inl (f1))), (mt, .inl (cI, z2, .inl (f2))), (ml, .inl (cI, z3, .inl (f3))), (mc, .inl (cI, z4, .inl (f4))), (mf, .inl (cI, z5, .inl (f5))), (me, .inl (cZ, z6, .inl (f6))), (mg, .inl (cI, z7, .inl (f7))), (mh, .inl (cI, z8, .inl (f8))), (mu, .inl (cI, z9, .inl (f9)))]
def mm_s (M : mm_T) (a b x : Int32) : mm_T := if M.2.2.2 = 0 ∧ ¬ M.2.2.1 = 0 then (M.1 + 1, lg_put M.2.1 M.1 a b x, (if M.2.2.1 ≤ 0 then M.2.2.1 else M.2.2.1 - 1), 0) else (M.1, M.2.1, M.2.2.1, 1)
theorem mm_y {M : mm_T} {a b x : Int32} (h : M.2.2.2 = 0 ∧ ¬ M.2.2.1 = 0) : mm_s M a b x = (M.1 + 1, lg_put M.2.1 M.1 a b x, (if M.2.2.1 ≤ 0 then M.2.2.1 else M.2.2.1 - 1), 0) := if_pos h
theorem mm_n {M : mm_T} {a b x : Int32} (h : ¬ (M.2.2.2 = 0 ∧ ¬ M.2.2.1 = 0)) : mm_s M a b x = (M.1, M.2.1, M.2.2.1, 1) := if_neg h
theorem mm_b (M : mm_T) (a b x : Int32) : (mm_s M a b x).1 ≤ M.1 + 1 := by
  unfold mm_s
  split
  · exact Nat.le_refl _
  · exact Nat.le_succ _
theorem qu_inc {q : Nat} (h : q < 255) : bI (BitVec.ofNat 8 q) + Int32.ofInt 1 = bI (BitVec.ofNat 8 (q + 1)) := by
  rw [← bI_of (by omega), ← bI_of (by omega)]; exact ii_1 q
/-- how many of the boxes 1 .. b are not emptied -/
def sm_e (em : Nat → Int32) : Nat → Nat
  | 0 => 0
  | b + 1 => if em (b + 1) = 0 then sm_e em b + 1 else sm_e em b
theorem sm_e0 {em : Nat → Int32} {b : Nat} (h : em (b + 1) = 0) : sm_e em (b + 1) = sm_e em b + 1 := if_pos h
theorem sm_e1 {em : Nat → Int32} {b : Nat} (h : ¬ em (b + 1) = 0) : sm_e em (b + 1) = sm_e em b := if_neg h
/-- the first j places of co, over fr -/
def cp_f (co : Nat → Int32) : Nat → (Nat → Int32) → Nat → Int32
  | 0, fr => fr
  | j + 1, fr => upd (cp_f co j fr) j (co j)
theorem d_M_product_0 : decode b_M_product 0 = .ok (.iconst 0, 1) := by decide +kernel
theorem d_M_product_1 : decode b_M_product 1 = .ok (.istore_n 2, 1) := by decide +kernel
theorem d_M_product_2 : decode b_M_product 2 = .ok (.iconst 0, 1) := by decide +kernel
theorem d_M_product_3 : decode b_M_product 3 = .ok (.istore_n 3, 1) := by decide +kernel
theorem d_M_product_4 : decode b_M_product 4 = .ok (.iload_n 3, 1) := by decide +kernel
theorem d_M_product_5 : decode b_M_product 5 = .ok (.bipush 8, 2) := by decide +kernel
theorem d_M_product_7 : decode b_M_product 7 = .ok (.if_icmp .ge 28, 3) := by decide +kernel
theorem d_M_product_10 : decode b_M_product 10 = .ok (.iload_n 1, 1) := by decide +kernel
theorem d_M_product_11 : decode b_M_product 11 = .ok (.iload_n 3, 1) := by decide +kernel
theorem d_M_product_12 : decode b_M_product 12 = .ok (.ishr, 1) := by decide +kernel
theorem d_M_product_13 : decode b_M_product 13 = .ok (.iconst 1, 1) := by decide +kernel
theorem d_M_product_14 : decode b_M_product 14 = .ok (.iand, 1) := by decide +kernel
theorem d_M_product_15 : decode b_M_product 15 = .ok (.iconst 1, 1) := by decide +kernel
theorem d_M_product_16 : decode b_M_product 16 = .ok (.if_icmp .ne 11, 3) := by decide +kernel
theorem d_M_product_19 : decode b_M_product 19 = .ok (.iload_n 2, 1) := by decide +kernel
theorem d_M_product_20 : decode b_M_product 20 = .ok (.iload_n 0, 1) := by decide +kernel
theorem d_M_product_21 : decode b_M_product 21 = .ok (.iload_n 3, 1) := by decide +kernel
theorem d_M_product_22 : decode b_M_product 22 = .ok (.ishl, 1) := by decide +kernel
theorem d_M_product_23 : decode b_M_product 23 = .ok (.ixor, 1) := by decide +kernel
theorem d_M_product_24 : decode b_M_product 24 = .ok (.goto 4, 3) := by decide +kernel
theorem d_M_product_27 : decode b_M_product 27 = .ok (.iload_n 2, 1) := by decide +kernel
theorem d_M_product_28 : decode b_M_product 28 = .ok (.istore_n 2, 1) := by decide +kernel
theorem d_M_product_29 : decode b_M_product 29 = .ok (.iinc 3 1, 3) := by decide +kernel
theorem d_M_product_32 : decode b_M_product 32 = .ok (.goto (-28), 3) := by decide +kernel
theorem d_M_product_35 : decode b_M_product 35 = .ok (.bipush 14, 2) := by decide +kernel
theorem d_M_product_37 : decode b_M_product 37 = .ok (.istore_n 3, 1) := by decide +kernel
theorem d_M_product_38 : decode b_M_product 38 = .ok (.iload_n 3, 1) := by decide +kernel
theorem d_M_product_39 : decode b_M_product 39 = .ok (.bipush 8, 2) := by decide +kernel
theorem d_M_product_41 : decode b_M_product 41 = .ok (.if_icmp .lt 33, 3) := by decide +kernel
theorem d_M_product_44 : decode b_M_product 44 = .ok (.iload_n 2, 1) := by decide +kernel
theorem d_M_product_45 : decode b_M_product 45 = .ok (.iload_n 3, 1) := by decide +kernel
theorem d_M_product_46 : decode b_M_product 46 = .ok (.ishr, 1) := by decide +kernel
theorem d_M_product_47 : decode b_M_product 47 = .ok (.iconst 1, 1) := by decide +kernel
theorem d_M_product_48 : decode b_M_product 48 = .ok (.iand, 1) := by decide +kernel
theorem d_M_product_49 : decode b_M_product 49 = .ok (.iconst 1, 1) := by decide +kernel
theorem d_M_product_50 : decode b_M_product 50 = .ok (.if_icmp .ne 16, 3) := by decide +kernel
theorem d_M_product_53 : decode b_M_product 53 = .ok (.iload_n 2, 1) := by decide +kernel
theorem d_M_product_54 : decode b_M_product 54 = .ok (.sipush 283, 3) := by decide +kernel
theorem d_M_product_57 : decode b_M_product 57 = .ok (.iload_n 3, 1) := by decide +kernel
theorem d_M_product_58 : decode b_M_product 58 = .ok (.bipush 8, 2) := by decide +kernel
theorem d_M_product_60 : decode b_M_product 60 = .ok (.isub, 1) := by decide +kernel
theorem d_M_product_61 : decode b_M_product 61 = .ok (.ishl, 1) := by decide +kernel
theorem d_M_product_62 : decode b_M_product 62 = .ok (.ixor, 1) := by decide +kernel
theorem d_M_product_63 : decode b_M_product 63 = .ok (.goto 4, 3) := by decide +kernel
theorem d_M_product_66 : decode b_M_product 66 = .ok (.iload_n 2, 1) := by decide +kernel
theorem d_M_product_67 : decode b_M_product 67 = .ok (.istore_n 2, 1) := by decide +kernel
theorem d_M_product_68 : decode b_M_product 68 = .ok (.iinc 3 (-1), 3) := by decide +kernel
theorem d_M_product_71 : decode b_M_product 71 = .ok (.goto (-33), 3) := by decide +kernel
theorem d_M_product_74 : decode b_M_product 74 = .ok (.iload_n 2, 1) := by decide +kernel
theorem d_M_product_75 : decode b_M_product 75 = .ok (.ireturn, 1) := by decide +kernel
theorem d_M_quotient_0 : decode b_M_quotient 0 = .ok (.iconst 0, 1) := by decide +kernel
theorem d_M_quotient_1 : decode b_M_quotient 1 = .ok (.istore_n 2, 1) := by decide +kernel
theorem d_M_quotient_2 : decode b_M_quotient 2 = .ok (.iload_n 2, 1) := by decide +kernel
theorem d_M_quotient_3 : decode b_M_quotient 3 = .ok (.sipush 255, 3) := by decide +kernel
theorem d_M_quotient_6 : decode b_M_quotient 6 = .ok (.if_icmp .ge 18, 3) := by decide +kernel
theorem d_M_quotient_9 : decode b_M_quotient 9 = .ok (.iload_n 2, 1) := by decide +kernel
theorem d_M_quotient_10 : decode b_M_quotient 10 = .ok (.iload_n 1, 1) := by decide +kernel
theorem d_M_quotient_11 : decode b_M_quotient 11 = .ok (.invokestatic 54, 3) := by decide +kernel
theorem d_M_quotient_14 : decode b_M_quotient 14 = .ok (.iload_n 0, 1) := by decide +kernel
theorem d_M_quotient_15 : decode b_M_quotient 15 = .ok (.if_icmp .eq 9, 3) := by decide +kernel
theorem d_M_quotient_18 : decode b_M_quotient 18 = .ok (.iinc 2 1, 3) := by decide +kernel
theorem d_M_quotient_21 : decode b_M_quotient 21 = .ok (.goto (-19), 3) := by decide +kernel
theorem d_M_quotient_24 : decode b_M_quotient 24 = .ok (.iload_n 2, 1) := by decide +kernel
theorem d_M_quotient_25 : decode b_M_quotient 25 = .ok (.ireturn, 1) := by decide +kernel
theorem d_M_thrown_0 : decode b_M_thrown 0 = .ok (.aload_n 0, 1) := by decide +kernel
theorem d_M_thrown_1 : decode b_M_thrown 1 = .ok (.getfield 51, 3) := by decide +kernel
theorem d_M_thrown_4 : decode b_M_thrown 4 = .ok (.ireturn, 1) := by decide +kernel
theorem d_M_pool_0 : decode b_M_pool 0 = .ok (.aload_n 0, 1) := by decide +kernel
theorem d_M_pool_1 : decode b_M_pool 1 = .ok (.iconst 0, 1) := by decide +kernel
theorem d_M_pool_2 : decode b_M_pool 2 = .ok (.putfield 51, 3) := by decide +kernel
theorem d_M_pool_5 : decode b_M_pool 5 = .ok (.aload_n 0, 1) := by decide +kernel
theorem d_M_pool_6 : decode b_M_pool 6 = .ok (.getfield 58, 3) := by decide +kernel
theorem d_M_pool_9 : decode b_M_pool 9 = .ok (.ireturn, 1) := by decide +kernel
theorem d_M_epoch_0 : decode b_M_epoch 0 = .ok (.aload_n 0, 1) := by decide +kernel
theorem d_M_epoch_1 : decode b_M_epoch 1 = .ok (.iconst 0, 1) := by decide +kernel
theorem d_M_epoch_2 : decode b_M_epoch 2 = .ok (.putfield 51, 3) := by decide +kernel
theorem d_M_epoch_5 : decode b_M_epoch 5 = .ok (.aload_n 0, 1) := by decide +kernel
theorem d_M_epoch_6 : decode b_M_epoch 6 = .ok (.getfield 109, 3) := by decide +kernel
theorem d_M_epoch_9 : decode b_M_epoch 9 = .ok (.ireturn, 1) := by decide +kernel
theorem d_M_sent_0 : decode b_M_sent 0 = .ok (.aload_n 0, 1) := by decide +kernel
theorem d_M_sent_1 : decode b_M_sent 1 = .ok (.iconst 0, 1) := by decide +kernel
theorem d_M_sent_2 : decode b_M_sent 2 = .ok (.putfield 51, 3) := by decide +kernel
theorem d_M_sent_5 : decode b_M_sent 5 = .ok (.aload_n 0, 1) := by decide +kernel
theorem d_M_sent_6 : decode b_M_sent 6 = .ok (.getfield 70, 3) := by decide +kernel
theorem d_M_sent_9 : decode b_M_sent 9 = .ok (.ireturn, 1) := by decide +kernel
theorem d_M_total_0 : decode b_M_total 0 = .ok (.iconst 0, 1) := by decide +kernel
theorem d_M_total_1 : decode b_M_total 1 = .ok (.istore_n 1, 1) := by decide +kernel
theorem d_M_total_2 : decode b_M_total 2 = .ok (.iconst 0, 1) := by decide +kernel
theorem d_M_total_3 : decode b_M_total 3 = .ok (.istore_n 2, 1) := by decide +kernel
theorem d_M_total_4 : decode b_M_total 4 = .ok (.iload_n 2, 1) := by decide +kernel
theorem d_M_total_5 : decode b_M_total 5 = .ok (.bipush 8, 2) := by decide +kernel
theorem d_M_total_7 : decode b_M_total 7 = .ok (.if_icmp .ge 18, 3) := by decide +kernel
theorem d_M_total_10 : decode b_M_total 10 = .ok (.iload_n 1, 1) := by decide +kernel
theorem d_M_total_11 : decode b_M_total 11 = .ok (.aload_n 0, 1) := by decide +kernel
theorem d_M_total_12 : decode b_M_total 12 = .ok (.getfield 16, 3) := by decide +kernel
theorem d_M_total_15 : decode b_M_total 15 = .ok (.iload_n 2, 1) := by decide +kernel
theorem d_M_total_16 : decode b_M_total 16 = .ok (.iaload, 1) := by decide +kernel
theorem d_M_total_17 : decode b_M_total 17 = .ok (.iadd, 1) := by decide +kernel
theorem d_M_total_18 : decode b_M_total 18 = .ok (.istore_n 1, 1) := by decide +kernel
theorem d_M_total_19 : decode b_M_total 19 = .ok (.iinc 2 1, 3) := by decide +kernel
theorem d_M_total_22 : decode b_M_total 22 = .ok (.goto (-18), 3) := by decide +kernel
theorem d_M_total_25 : decode b_M_total 25 = .ok (.iload_n 1, 1) := by decide +kernel
theorem d_M_total_26 : decode b_M_total 26 = .ok (.ireturn, 1) := by decide +kernel
theorem d_M_kept_0 : decode b_M_kept 0 = .ok (.iconst 0, 1) := by decide +kernel
theorem d_M_kept_1 : decode b_M_kept 1 = .ok (.istore_n 1, 1) := by decide +kernel
theorem d_M_kept_2 : decode b_M_kept 2 = .ok (.iconst 0, 1) := by decide +kernel
theorem d_M_kept_3 : decode b_M_kept 3 = .ok (.istore_n 2, 1) := by decide +kernel
theorem d_M_kept_4 : decode b_M_kept 4 = .ok (.iload_n 2, 1) := by decide +kernel
theorem d_M_kept_5 : decode b_M_kept 5 = .ok (.bipush 8, 2) := by decide +kernel
theorem d_M_kept_7 : decode b_M_kept 7 = .ok (.if_icmp .ge 26, 3) := by decide +kernel
theorem d_M_kept_10 : decode b_M_kept 10 = .ok (.aload_n 0, 1) := by decide +kernel
theorem d_M_kept_11 : decode b_M_kept 11 = .ok (.getfield 16, 3) := by decide +kernel
theorem d_M_kept_14 : decode b_M_kept 14 = .ok (.iload_n 2, 1) := by decide +kernel
theorem d_M_kept_15 : decode b_M_kept 15 = .ok (.iaload, 1) := by decide +kernel
theorem d_M_kept_16 : decode b_M_kept 16 = .ok (.ifCond .le 9, 3) := by decide +kernel
theorem d_M_kept_19 : decode b_M_kept 19 = .ok (.iload_n 1, 1) := by decide +kernel
theorem d_M_kept_20 : decode b_M_kept 20 = .ok (.iconst 1, 1) := by decide +kernel
theorem d_M_kept_21 : decode b_M_kept 21 = .ok (.iadd, 1) := by decide +kernel
theorem d_M_kept_22 : decode b_M_kept 22 = .ok (.goto 4, 3) := by decide +kernel
theorem d_M_kept_25 : decode b_M_kept 25 = .ok (.iload_n 1, 1) := by decide +kernel
theorem d_M_kept_26 : decode b_M_kept 26 = .ok (.istore_n 1, 1) := by decide +kernel
theorem d_M_kept_27 : decode b_M_kept 27 = .ok (.iinc 2 1, 3) := by decide +kernel
theorem d_M_kept_30 : decode b_M_kept 30 = .ok (.goto (-26), 3) := by decide +kernel
theorem d_M_kept_33 : decode b_M_kept 33 = .ok (.iload_n 1, 1) := by decide +kernel
theorem d_M_kept_34 : decode b_M_kept 34 = .ok (.ireturn, 1) := by decide +kernel
theorem d_M_files_0 : decode b_M_files 0 = .ok (.aload_n 0, 1) := by decide +kernel
theorem d_M_files_1 : decode b_M_files 1 = .ok (.iconst 0, 1) := by decide +kernel
theorem d_M_files_2 : decode b_M_files 2 = .ok (.putfield 51, 3) := by decide +kernel
theorem d_M_files_5 : decode b_M_files 5 = .ok (.aload_n 0, 1) := by decide +kernel
theorem d_M_files_6 : decode b_M_files 6 = .ok (.invokevirtual 152, 3) := by decide +kernel
theorem d_M_files_9 : decode b_M_files 9 = .ok (.ireturn, 1) := by decide +kernel
theorem d_M_filled_0 : decode b_M_filled 0 = .ok (.iconst 0, 1) := by decide +kernel
theorem d_M_filled_1 : decode b_M_filled 1 = .ok (.istore_n 1, 1) := by decide +kernel
theorem d_M_filled_2 : decode b_M_filled 2 = .ok (.iconst 1, 1) := by decide +kernel
theorem d_M_filled_3 : decode b_M_filled 3 = .ok (.istore_n 2, 1) := by decide +kernel
theorem d_M_filled_4 : decode b_M_filled 4 = .ok (.iload_n 2, 1) := by decide +kernel
theorem d_M_filled_5 : decode b_M_filled 5 = .ok (.aload_n 0, 1) := by decide +kernel
theorem d_M_filled_6 : decode b_M_filled 6 = .ok (.getfield 45, 3) := by decide +kernel
theorem d_M_filled_9 : decode b_M_filled 9 = .ok (.if_icmp .gt 26, 3) := by decide +kernel
theorem d_M_filled_12 : decode b_M_filled 12 = .ok (.aload_n 0, 1) := by decide +kernel
theorem d_M_filled_13 : decode b_M_filled 13 = .ok (.getfield 25, 3) := by decide +kernel
theorem d_M_filled_16 : decode b_M_filled 16 = .ok (.iload_n 2, 1) := by decide +kernel
theorem d_M_filled_17 : decode b_M_filled 17 = .ok (.baload, 1) := by decide +kernel
theorem d_M_filled_18 : decode b_M_filled 18 = .ok (.ifCond .eq 7, 3) := by decide +kernel
theorem d_M_filled_21 : decode b_M_filled 21 = .ok (.iload_n 1, 1) := by decide +kernel
theorem d_M_filled_22 : decode b_M_filled 22 = .ok (.goto 6, 3) := by decide +kernel
theorem d_M_filled_25 : decode b_M_filled 25 = .ok (.iload_n 1, 1) := by decide +kernel
theorem d_M_filled_26 : decode b_M_filled 26 = .ok (.iconst 1, 1) := by decide +kernel
theorem d_M_filled_27 : decode b_M_filled 27 = .ok (.iadd, 1) := by decide +kernel
theorem d_M_filled_28 : decode b_M_filled 28 = .ok (.istore_n 1, 1) := by decide +kernel
theorem d_M_filled_29 : decode b_M_filled 29 = .ok (.iinc 2 1, 3) := by decide +kernel
theorem d_M_filled_32 : decode b_M_filled 32 = .ok (.goto (-28), 3) := by decide +kernel
theorem d_M_filled_35 : decode b_M_filled 35 = .ok (.iload_n 1, 1) := by decide +kernel
theorem d_M_filled_36 : decode b_M_filled 36 = .ok (.ireturn, 1) := by decide +kernel
theorem d_M_nextTaken_0 : decode b_M_nextTaken 0 = .ok (.aload_n 0, 1) := by decide +kernel
theorem d_M_nextTaken_1 : decode b_M_nextTaken 1 = .ok (.dup, 1) := by decide +kernel
theorem d_M_nextTaken_2 : decode b_M_nextTaken 2 = .ok (.getfield 63, 3) := by decide +kernel
theorem d_M_nextTaken_5 : decode b_M_nextTaken 5 = .ok (.iconst 1, 1) := by decide +kernel
theorem d_M_nextTaken_6 : decode b_M_nextTaken 6 = .ok (.iadd, 1) := by decide +kernel
theorem d_M_nextTaken_7 : decode b_M_nextTaken 7 = .ok (.putfield 63, 3) := by decide +kernel
theorem d_M_nextTaken_10 : decode b_M_nextTaken 10 = .ok (.aload_n 0, 1) := by decide +kernel
theorem d_M_nextTaken_11 : decode b_M_nextTaken 11 = .ok (.getfield 13, 3) := by decide +kernel
theorem d_M_nextTaken_14 : decode b_M_nextTaken 14 = .ok (.aload_n 0, 1) := by decide +kernel
theorem d_M_nextTaken_15 : decode b_M_nextTaken 15 = .ok (.getfield 63, 3) := by decide +kernel
theorem d_M_nextTaken_18 : decode b_M_nextTaken 18 = .ok (.iconst 1, 1) := by decide +kernel
theorem d_M_nextTaken_19 : decode b_M_nextTaken 19 = .ok (.isub, 1) := by decide +kernel
theorem d_M_nextTaken_20 : decode b_M_nextTaken 20 = .ok (.iaload, 1) := by decide +kernel
theorem d_M_nextTaken_21 : decode b_M_nextTaken 21 = .ok (.ireturn, 1) := by decide +kernel
theorem d_M_copyFresh_0 : decode b_M_copyFresh 0 = .ok (.iconst 0, 1) := by decide +kernel
theorem d_M_copyFresh_1 : decode b_M_copyFresh 1 = .ok (.istore_n 1, 1) := by decide +kernel
theorem d_M_copyFresh_2 : decode b_M_copyFresh 2 = .ok (.iload_n 1, 1) := by decide +kernel
theorem d_M_copyFresh_3 : decode b_M_copyFresh 3 = .ok (.sipush 576, 3) := by decide +kernel
theorem d_M_copyFresh_6 : decode b_M_copyFresh 6 = .ok (.if_icmp .ge 21, 3) := by decide +kernel
theorem d_M_copyFresh_9 : decode b_M_copyFresh 9 = .ok (.aload_n 0, 1) := by decide +kernel
theorem d_M_copyFresh_10 : decode b_M_copyFresh 10 = .ok (.getfield 22, 3) := by decide +kernel
theorem d_M_copyFresh_13 : decode b_M_copyFresh 13 = .ok (.iload_n 1, 1) := by decide +kernel
theorem d_M_copyFresh_14 : decode b_M_copyFresh 14 = .ok (.aload_n 0, 1) := by decide +kernel
theorem d_M_copyFresh_15 : decode b_M_copyFresh 15 = .ok (.getfield 19, 3) := by decide +kernel
theorem d_M_copyFresh_18 : decode b_M_copyFresh 18 = .ok (.iload_n 1, 1) := by decide +kernel
theorem d_M_copyFresh_19 : decode b_M_copyFresh 19 = .ok (.iaload, 1) := by decide +kernel
theorem d_M_copyFresh_20 : decode b_M_copyFresh 20 = .ok (.iastore, 1) := by decide +kernel
theorem d_M_copyFresh_21 : decode b_M_copyFresh 21 = .ok (.iinc 1 1, 3) := by decide +kernel
theorem d_M_copyFresh_24 : decode b_M_copyFresh 24 = .ok (.goto (-22), 3) := by decide +kernel
theorem d_M_copyFresh_27 : decode b_M_copyFresh 27 = .ok (.return_, 1) := by decide +kernel
theorem d_M_send_0 : decode b_M_send 0 = .ok (.aload_n 0, 1) := by decide +kernel
theorem d_M_send_1 : decode b_M_send 1 = .ok (.aload_n 0, 1) := by decide +kernel
theorem d_M_send_2 : decode b_M_send 2 = .ok (.getfield 66, 3) := by decide +kernel
theorem d_M_send_5 : decode b_M_send 5 = .ok (.ifCond .ne 10, 3) := by decide +kernel
theorem d_M_send_8 : decode b_M_send 8 = .ok (.aload_n 0, 1) := by decide +kernel
theorem d_M_send_9 : decode b_M_send 9 = .ok (.getfield 32, 3) := by decide +kernel
theorem d_M_send_12 : decode b_M_send 12 = .ok (.ifCond .ne 7, 3) := by decide +kernel
theorem d_M_send_15 : decode b_M_send 15 = .ok (.iconst 1, 1) := by decide +kernel
theorem d_M_send_16 : decode b_M_send 16 = .ok (.goto 4, 3) := by decide +kernel
theorem d_M_send_19 : decode b_M_send 19 = .ok (.iconst 0, 1) := by decide +kernel
theorem d_M_send_20 : decode b_M_send 20 = .ok (.putfield 66, 3) := by decide +kernel
theorem d_M_send_23 : decode b_M_send 23 = .ok (.aload_n 0, 1) := by decide +kernel
theorem d_M_send_24 : decode b_M_send 24 = .ok (.getfield 66, 3) := by decide +kernel
theorem d_M_send_27 : decode b_M_send 27 = .ok (.ifCond .eq 4, 3) := by decide +kernel
theorem d_M_send_30 : decode b_M_send 30 = .ok (.return_, 1) := by decide +kernel
theorem d_M_send_31 : decode b_M_send 31 = .ok (.aload_n 0, 1) := by decide +kernel
theorem d_M_send_32 : decode b_M_send 32 = .ok (.aload_n 0, 1) := by decide +kernel
theorem d_M_send_33 : decode b_M_send 33 = .ok (.getfield 32, 3) := by decide +kernel
theorem d_M_send_36 : decode b_M_send 36 = .ok (.ifCond .le 12, 3) := by decide +kernel
theorem d_M_send_39 : decode b_M_send 39 = .ok (.aload_n 0, 1) := by decide +kernel
theorem d_M_send_40 : decode b_M_send 40 = .ok (.getfield 32, 3) := by decide +kernel
theorem d_M_send_43 : decode b_M_send 43 = .ok (.iconst 1, 1) := by decide +kernel
theorem d_M_send_44 : decode b_M_send 44 = .ok (.isub, 1) := by decide +kernel
theorem d_M_send_45 : decode b_M_send 45 = .ok (.goto 7, 3) := by decide +kernel
theorem d_M_send_48 : decode b_M_send 48 = .ok (.aload_n 0, 1) := by decide +kernel
theorem d_M_send_49 : decode b_M_send 49 = .ok (.getfield 32, 3) := by decide +kernel
theorem d_M_send_52 : decode b_M_send 52 = .ok (.putfield 32, 3) := by decide +kernel
theorem d_M_send_55 : decode b_M_send 55 = .ok (.aload_n 0, 1) := by decide +kernel
theorem d_M_send_56 : decode b_M_send 56 = .ok (.getfield 70, 3) := by decide +kernel
theorem d_M_send_59 : decode b_M_send 59 = .ok (.bipush 64, 2) := by decide +kernel
theorem d_M_send_61 : decode b_M_send 61 = .ok (.irem, 1) := by decide +kernel
theorem d_M_send_62 : decode b_M_send 62 = .ok (.iconst 3, 1) := by decide +kernel
theorem d_M_send_63 : decode b_M_send 63 = .ok (.imul, 1) := by decide +kernel
theorem d_M_send_64 : decode b_M_send 64 = .ok (.istore 4, 2) := by decide +kernel
theorem d_M_send_66 : decode b_M_send 66 = .ok (.aload_n 0, 1) := by decide +kernel
theorem d_M_send_67 : decode b_M_send 67 = .ok (.getfield 29, 3) := by decide +kernel
theorem d_M_send_70 : decode b_M_send 70 = .ok (.iload 4, 2) := by decide +kernel
theorem d_M_send_72 : decode b_M_send 72 = .ok (.iload_n 1, 1) := by decide +kernel
theorem d_M_send_73 : decode b_M_send 73 = .ok (.iastore, 1) := by decide +kernel
theorem d_M_send_74 : decode b_M_send 74 = .ok (.aload_n 0, 1) := by decide +kernel
theorem d_M_send_75 : decode b_M_send 75 = .ok (.getfield 29, 3) := by decide +kernel
theorem d_M_send_78 : decode b_M_send 78 = .ok (.iload 4, 2) := by decide +kernel
theorem d_M_send_80 : decode b_M_send 80 = .ok (.iconst 1, 1) := by decide +kernel
theorem d_M_send_81 : decode b_M_send 81 = .ok (.iadd, 1) := by decide +kernel
theorem d_M_send_82 : decode b_M_send 82 = .ok (.iload_n 2, 1) := by decide +kernel
theorem d_M_send_83 : decode b_M_send 83 = .ok (.iastore, 1) := by decide +kernel
theorem d_M_send_84 : decode b_M_send 84 = .ok (.aload_n 0, 1) := by decide +kernel
theorem d_M_send_85 : decode b_M_send 85 = .ok (.getfield 29, 3) := by decide +kernel
theorem d_M_send_88 : decode b_M_send 88 = .ok (.iload 4, 2) := by decide +kernel
theorem d_M_send_90 : decode b_M_send 90 = .ok (.iconst 2, 1) := by decide +kernel
theorem d_M_send_91 : decode b_M_send 91 = .ok (.iadd, 1) := by decide +kernel
theorem d_M_send_92 : decode b_M_send 92 = .ok (.iload_n 3, 1) := by decide +kernel
theorem d_M_send_93 : decode b_M_send 93 = .ok (.iastore, 1) := by decide +kernel
theorem d_M_send_94 : decode b_M_send 94 = .ok (.aload_n 0, 1) := by decide +kernel
theorem d_M_send_95 : decode b_M_send 95 = .ok (.dup, 1) := by decide +kernel
theorem d_M_send_96 : decode b_M_send 96 = .ok (.getfield 70, 3) := by decide +kernel
theorem d_M_send_99 : decode b_M_send 99 = .ok (.iconst 1, 1) := by decide +kernel
theorem d_M_send_100 : decode b_M_send 100 = .ok (.iadd, 1) := by decide +kernel
theorem d_M_send_101 : decode b_M_send 101 = .ok (.putfield 70, 3) := by decide +kernel
theorem d_M_send_104 : decode b_M_send 104 = .ok (.return_, 1) := by decide +kernel
set_option maxHeartbeats 4000000 in
set_option maxRecDepth 100000 in
theorem c_M_product (l : Launch) (D : va_G) (cI cZ cQ : ClassId) (a : BitVec 8) (b : BitVec 8) : sd_I l D (tyL cI cZ cQ) y_M_product b_M_product 4 (.int) ({ frames := 0, cells := 0, slots := 0, locals := 0 }) [.int (bI a), .int (bI b)] [] (bI (gf_m a b)) [] := by
  refine sd_ofI (by decide) (Nat.le_of_ble_eq_true rfl) ?_
  intro p e s m below meth c A ls hx hb hr hml hlk hown hts hK hP hD hA hS hl
  have hl : lv_has ls 4 [(0, .int (bI a)), (1, .int (bI b))] := hl
  refine lv_iconst (v := 0) hx hb d_M_product_0 (by decide) ?_
  refine sd_top (y := iB (mp_1 a b 0)) (rfl) ?_
  refine lv_istore_n hx hb d_M_product_1 rfl hl (Nat.le_of_ble_eq_true rfl) (lv' := [(2, .int (iB (mp_1 a b 0))), (0, .int (bI a)), (1, .int (bI b))]) rfl (fun ls hl => ?_)
  refine lv_iconst (v := 0) hx hb d_M_product_2 (by decide) ?_
  refine sd_top (y := nI 0) (rfl) ?_
  refine lv_istore_n hx hb d_M_product_3 rfl hl (Nat.le_of_ble_eq_true rfl) (lv' := [(3, .int (nI 0)), (2, .int (iB (mp_1 a b 0))), (0, .int (bI a)), (1, .int (bI b))]) rfl (fun ls hl => ?_)
  have hl := lv_sub hl (l' := [(0, .int (bI a)), (1, .int (bI b)), (2, .int (iB (mp_1 a b 0))), (3, .int (nI 0))]) [2, 3, 1, 0] rfl
  have loop4 : ∀ (d : Nat) (j : Nat) (ls : Array Slot) (H : Heap) (locs : List Loc), 8 - j = d → (j ≤ 8) → lv_has ls 4 [(0, .int (bI a)), (1, .int (bI b)), (2, .int (iB (mp_1 a b j))), (3, .int (nI (j)))] → va_P D cls [] H → va_D A [] → va_S A s.heap H locs → W p l e ({ frames := 0, cells := 0, slots := 0, locals := 0 }) s m ([.int (bI a), .int (bI b)] : List Value).toArray below meth c H locs 0 0 (MQ below (sd_qi D (bI (gf_m a b)) [] A) ([.int (bI a), .int (bI b)] : List Value).toArray s 0 0 A) (F0 m 4 ls []) := by
    intro d
    induction d using Nat.strongRecOn with
    | _ d ih4 =>
    intro j ls H locs hd hj hl hP hD hS
    subst hd
    refine lv_iload_n hx hb d_M_product_4 rfl (lv_at hl 3 rfl) ?_
    refine lv_bipush (v := nI 8) hx hb d_M_product_5 (by decide) ?_
    refine lv_icmp_ge (tgt := 35) hx hb d_M_product_7 rfl (fun hc7 => ?_) (fun hc7 => ?_)
    · skip
      rw [nI_leI (by omega) (by omega)] at hc7
      have hj8 : 8 = j := by omega
      subst hj8
      refine lv_bipush (v := nI (7 + 7)) hx hb d_M_product_35 (by decide) ?_
      refine lv_istore_n hx hb d_M_product_37 rfl hl (Nat.le_of_ble_eq_true rfl) (lv' := [(3, .int (nI (7 + 7))), (0, .int (bI a)), (1, .int (bI b)), (2, .int (iB (mp_1 a b 8)))]) rfl (fun ls hl => ?_)
      have hl := lv_sub hl (l' := [(0, .int (bI a)), (1, .int (bI b)), (2, .int (iB (mp_1 a b 8))), (3, .int (nI (7 + 7)))]) [1, 2, 3, 0] rfl
      have loop38 : ∀ (d : Nat) (i : Nat) (r : BitVec 32) (ls : Array Slot) (H : Heap) (locs : List Loc), i = d → (i ≤ 7) → (mp_2 i r = mp_2 7 (mp_1 a b 8)) → lv_has ls 4 [(0, .int (bI a)), (1, .int (bI b)), (2, .int (iB r)), (3, .int (nI (7 + i)))] → va_P D cls [] H → va_D A [] → va_S A s.heap H locs → W p l e ({ frames := 0, cells := 0, slots := 0, locals := 0 }) s m ([.int (bI a), .int (bI b)] : List Value).toArray below meth c H locs 0 0 (MQ below (sd_qi D (bI (gf_m a b)) [] A) ([.int (bI a), .int (bI b)] : List Value).toArray s 0 0 A) (F0 m 38 ls []) := by
        intro d
        induction d using Nat.strongRecOn with
        | _ d ih38 =>
        intro i r ls H locs hd hi hr9 hl hP hD hS
        subst hd
        refine lv_iload_n hx hb d_M_product_38 rfl (lv_at hl 3 rfl) ?_
        refine lv_bipush (v := nI 8) hx hb d_M_product_39 (by decide) ?_
        refine lv_icmp_lt (tgt := 74) hx hb d_M_product_41 rfl (fun hc41 => ?_) (fun hc41 => ?_)
        · skip
          rw [nI_ltI (by omega) (by omega)] at hc41
          have hi0 : 0 = i := by omega
          subst hi0
          refine lv_iload_n hx hb d_M_product_74 rfl (lv_at hl 2 rfl) ?_
          exact sd_iret hx hb hr hlk hP hS (Nat.le_of_ble_eq_true rfl) (Nat.le_of_ble_eq_true rfl) (by rw [← mp_bI, ← hr9]; rfl) d_M_product_75
        · skip
          rw [nI_ltI (by omega) (by omega)] at hc41
          obtain ⟨i, rfl⟩ : ∃ z, i = z + 1 := ⟨i - 1, by omega⟩
          have hm9 : mp_2 i (mp_s i r) = mp_2 7 (mp_1 a b 8) := hr9
          have join67 : ∀ (q : BitVec 32) (ls : Array Slot) (H : Heap) (locs : List Loc), (mp_2 i q = mp_2 7 (mp_1 a b 8)) → lv_has ls 4 [(0, .int (bI a)), (1, .int (bI b)), (3, .int (nI (7 + (i + 1))))] → va_P D cls [] H → va_D A [] → va_S A s.heap H locs → W p l e ({ frames := 0, cells := 0, slots := 0, locals := 0 }) s m ([.int (bI a), .int (bI b)] : List Value).toArray below meth c H locs 0 0 (MQ below (sd_qi D (bI (gf_m a b)) [] A) ([.int (bI a), .int (bI b)] : List Value).toArray s 0 0 A) (F0 m 67 ls [.int (iB q)]) := by
            intro q ls H locs hq hl hP hD hS
            refine lv_istore_n hx hb d_M_product_67 rfl hl (Nat.le_of_ble_eq_true rfl) (lv' := [(2, .int (iB q)), (0, .int (bI a)), (1, .int (bI b)), (3, .int (nI (7 + (i + 1))))]) rfl (fun ls hl => ?_)
            refine lv_iinc hx hb d_M_product_68 hl (k := 3) rfl (v := nI (7 + i)) (ii_m1 _) (Nat.le_of_ble_eq_true rfl) (lv' := [(3, .int (nI (7 + i))), (2, .int (iB q)), (0, .int (bI a)), (1, .int (bI b))]) rfl (fun ls hl => ?_)
            refine lv_goto (tgt := 38) hx hb d_M_product_71 rfl ?_
            have hl := lv_sub hl (l' := [(0, .int (bI a)), (1, .int (bI b)), (2, .int (iB q)), (3, .int (nI (7 + i)))]) [2, 3, 1, 0] rfl
            exact ih38 _ (by omega) (i) _ ls _ _ rfl (by omega) (hq) hl hP hD hS
          refine lv_iload_n hx hb d_M_product_44 rfl (lv_at hl 2 rfl) ?_
          refine lv_iload_n hx hb d_M_product_45 rfl (lv_at hl 3 rfl) ?_
          refine lv_ishr hx hb d_M_product_46 ?_
          refine lv_iconst (v := 1) hx hb d_M_product_47 (by decide) ?_
          refine lv_iand hx hb d_M_product_48 ?_
          refine lv_iconst (v := 1) hx hb d_M_product_49 (by decide) ?_
          refine lv_icmp_ne (tgt := 66) hx hb d_M_product_50 rfl (fun hc50 => ?_) (fun hc50 => ?_)
          · skip
            have hb9 : ¬ r.getLsbD (8 + i) = true := fun h => hc50 ((iB_bit r (by omega)).mpr (by rw [show 7 + (i + 1) = 8 + i by omega]; exact h))
            have hq : mp_2 i r = mp_2 7 (mp_1 a b 8) := by rw [← hm9]; unfold mp_s; rw [if_neg hb9]
            refine lv_iload_n hx hb d_M_product_66 rfl (lv_at hl 2 rfl) ?_
            have hl := lv_sub hl (l' := [(0, .int (bI a)), (1, .int (bI b)), (3, .int (nI (7 + (i + 1))))]) [0, 1, 3] rfl
            exact join67 _ ls _ _ (hq) hl hP hD hS
          · skip
            have hb9 : r.getLsbD (8 + i) = true := by rw [show 8 + i = 7 + (i + 1) by omega]; exact (iB_bit r (by omega)).mp hc50
            have hq : mp_2 i (r ^^^ (283#32 <<< i)) = mp_2 7 (mp_1 a b 8) := by rw [← hm9]; unfold mp_s; rw [if_pos hb9]
            refine lv_iload_n hx hb d_M_product_53 rfl (lv_at hl 2 rfl) ?_
            refine lv_sipush (v := 283) hx hb d_M_product_54 (by decide) ?_
            refine lv_iload_n hx hb d_M_product_57 rfl (lv_at hl 3 rfl) ?_
            refine lv_bipush (v := nI 8) hx hb d_M_product_58 (by decide) ?_
            refine lv_isub hx hb d_M_product_60 ?_
            refine sd_top (y := nI i) (by rw [pk_sub (by omega)]; congr 1; omega) ?_
            refine lv_ishl hx hb d_M_product_61 ?_
            refine lv_ixor hx hb d_M_product_62 ?_
            refine sd_top (y := iB (r ^^^ (283#32 <<< i))) (iB_shlc 283 r (by omega)) ?_
            refine lv_goto (tgt := 67) hx hb d_M_product_63 rfl ?_
            have hl := lv_sub hl (l' := [(0, .int (bI a)), (1, .int (bI b)), (3, .int (nI (7 + (i + 1))))]) [0, 1, 3] rfl
            exact join67 _ ls _ _ (hq) hl hP hD hS
      exact loop38 _ (7) (mp_1 a b 8) ls _ _ rfl (by omega) (rfl) hl hP hD hS
    · skip
      rw [nI_leI (by omega) (by omega)] at hc7
      have hj8 : j < 8 := by omega
      have join28 : ∀ (q : BitVec 32) (ls : Array Slot) (H : Heap) (locs : List Loc), (q = mp_1 a b (j + 1)) → lv_has ls 4 [(0, .int (bI a)), (1, .int (bI b)), (3, .int (nI (j)))] → va_P D cls [] H → va_D A [] → va_S A s.heap H locs → W p l e ({ frames := 0, cells := 0, slots := 0, locals := 0 }) s m ([.int (bI a), .int (bI b)] : List Value).toArray below meth c H locs 0 0 (MQ below (sd_qi D (bI (gf_m a b)) [] A) ([.int (bI a), .int (bI b)] : List Value).toArray s 0 0 A) (F0 m 28 ls [.int (iB q)]) := by
        intro q ls H locs hq hl hP hD hS
        refine lv_istore_n hx hb d_M_product_28 rfl hl (Nat.le_of_ble_eq_true rfl) (lv' := [(2, .int (iB q)), (0, .int (bI a)), (1, .int (bI b)), (3, .int (nI (j)))]) rfl (fun ls hl => ?_)
        refine lv_iinc hx hb d_M_product_29 hl (k := 3) rfl (v := nI (j + 1)) (ii_1 _) (Nat.le_of_ble_eq_true rfl) (lv' := [(3, .int (nI (j + 1))), (2, .int (iB q)), (0, .int (bI a)), (1, .int (bI b))]) rfl (fun ls hl => ?_)
        refine lv_goto (tgt := 4) hx hb d_M_product_32 rfl ?_
        have hl := lv_sub hl (l' := [(0, .int (bI a)), (1, .int (bI b)), (2, .int (iB q)), (3, .int (nI (j + 1)))]) [2, 3, 1, 0] rfl
        subst hq
        exact ih4 _ (by omega) (j + 1) ls _ _ rfl (by omega) hl hP hD hS
      refine lv_iload_n hx hb d_M_product_10 rfl (lv_at hl 1 rfl) ?_
      refine lv_iload_n hx hb d_M_product_11 rfl (lv_at hl 3 rfl) ?_
      refine lv_ishr hx hb d_M_product_12 ?_
      refine lv_iconst (v := 1) hx hb d_M_product_13 (by decide) ?_
      refine lv_iand hx hb d_M_product_14 ?_
      refine lv_iconst (v := 1) hx hb d_M_product_15 (by decide) ?_
      refine lv_icmp_ne (tgt := 27) hx hb d_M_product_16 rfl (fun hc16 => ?_) (fun hc16 => ?_)
      · skip
        have hq : mp_1 a b j = mp_1 a b (j + 1) := (if_neg (fun h => hc16 ((bI_sbit b j hj8).mpr h))).symm
        refine lv_iload_n hx hb d_M_product_27 rfl (lv_at hl 2 rfl) ?_
        have hl := lv_sub hl (l' := [(0, .int (bI a)), (1, .int (bI b)), (3, .int (nI (j)))]) [0, 1, 3] rfl
        exact join28 _ ls _ _ (hq) hl hP hD hS
      · skip
        have hq : mp_1 a b j ^^^ (a.setWidth 32 <<< j) = mp_1 a b (j + 1) := (if_pos ((bI_sbit b j hj8).mp hc16)).symm
        refine lv_iload_n hx hb d_M_product_19 rfl (lv_at hl 2 rfl) ?_
        refine lv_iload_n hx hb d_M_product_20 rfl (lv_at hl 0 rfl) ?_
        refine lv_iload_n hx hb d_M_product_21 rfl (lv_at hl 3 rfl) ?_
        refine lv_ishl hx hb d_M_product_22 ?_
        refine lv_ixor hx hb d_M_product_23 ?_
        refine sd_top (y := iB (mp_1 a b j ^^^ (a.setWidth 32 <<< j))) (iB_shl a _ (by omega)) ?_
        refine lv_goto (tgt := 28) hx hb d_M_product_24 rfl ?_
        have hl := lv_sub hl (l' := [(0, .int (bI a)), (1, .int (bI b)), (3, .int (nI (j)))]) [0, 1, 3] rfl
        exact join28 _ ls _ _ (hq) hl hP hD hS
  exact loop4 _ (0) ls _ _ rfl (by omega) hl hP hD hS
set_option maxHeartbeats 4000000 in
set_option maxRecDepth 100000 in
theorem c_M_quotient (l : Launch) (D : va_G) (cI cZ cQ : ClassId) (a : BitVec 8) (b : BitVec 8) (hb0 : b ≠ 0#8) : sd_I l D (tyL cI cZ cQ) y_M_quotient b_M_quotient 3 (.int) ({ frames := 1, cells := 0, slots := 0, locals := 23 }) [.int (bI a), .int (bI b)] [] (bI (gf_m a (gf_i b))) [] := by
  refine sd_ofI (by decide) (Nat.le_of_ble_eq_true rfl) ?_
  intro p e s m below meth c A ls hx hb hr hml hlk hown hts hK hP hD hA hS hl
  have hl : lv_has ls 3 [(0, .int (bI a)), (1, .int (bI b))] := hl
  refine lv_iconst (v := 0) hx hb d_M_quotient_0 (by decide) ?_
  refine sd_top (y := bI (BitVec.ofNat 8 0)) (rfl) ?_
  refine lv_istore_n hx hb d_M_quotient_1 rfl hl (Nat.le_of_ble_eq_true rfl) (lv' := [(2, .int (bI (BitVec.ofNat 8 0))), (0, .int (bI a)), (1, .int (bI b))]) rfl (fun ls hl => ?_)
  have hl := lv_sub hl (l' := [(0, .int (bI a)), (1, .int (bI b)), (2, .int (bI (BitVec.ofNat 8 0)))]) [1, 2, 0] rfl
  have loop2 : ∀ (d : Nat) (q : Nat) (ls : Array Slot) (H : Heap) (locs : List Loc), 255 - q = d → (q ≤ 255) → (q ≤ (gf_m a (gf_i b)).toNat) → lv_has ls 3 [(0, .int (bI a)), (1, .int (bI b)), (2, .int (bI (BitVec.ofNat 8 q)))] → va_P D cls [] H → va_D A [] → va_S A s.heap H locs → W p l e ({ frames := 1, cells := 0, slots := 0, locals := 23 }) s m ([.int (bI a), .int (bI b)] : List Value).toArray below meth c H locs 0 0 (MQ below (sd_qi D (bI (gf_m a (gf_i b))) [] A) ([.int (bI a), .int (bI b)] : List Value).toArray s 0 0 A) (F0 m 2 ls []) := by
    intro d
    induction d using Nat.strongRecOn with
    | _ d ih2 =>
    intro q ls H locs hd hq hle hl hP hD hS
    subst hd
    refine lv_iload_n hx hb d_M_quotient_2 rfl (lv_at hl 2 rfl) ?_
    refine lv_sipush (v := nI 255) hx hb d_M_quotient_3 (by decide) ?_
    refine lv_icmp_ge (tgt := 24) hx hb d_M_quotient_6 rfl (fun hc6 => ?_) (fun hc6 => ?_)
    · skip
      have hq5 : 255 = q := by
        rw [← bI_of (by omega), nI_leI (by omega) (by omega)] at hc6
        omega
      have hend : bI (BitVec.ofNat 8 q) = bI (gf_m a (gf_i b)) := by
        have := (gf_m a (gf_i b)).isLt
        rw [← bI_of (by omega)]
        unfold bI
        congr 1
        omega
      refine lv_iload_n hx hb d_M_quotient_24 rfl (lv_at hl 2 rfl) ?_
      exact sd_iret hx hb hr hlk hP hS (Nat.le_of_ble_eq_true rfl) (Nat.le_of_ble_eq_true rfl) (hend) d_M_quotient_25
    · skip
      have hq5 : q < 255 := by
        rw [← bI_of (by omega), nI_leI (by omega) (by omega)] at hc6
        omega
      refine lv_iload_n hx hb d_M_quotient_9 rfl (lv_at hl 2 rfl) ?_
      refine lv_iload_n hx hb d_M_quotient_10 rfl (lv_at hl 1 rfl) ?_
      refine sd_callSI (As := [.int (bI (BitVec.ofNat 8 q)), .int (bI b)]) (rest := []) (cx := []) (w1 := []) (c_M_product l D cI cZ cQ (BitVec.ofNat 8 q) (b)) ⟨wc_M_product, wm_M_54, wi_M, by decide, by decide, show (parseMethodDescriptor y_M_product.desc).map (fun d => d.parameters.length) = some 2 by decide +kernel⟩ ws_M_product hx hb hml hown hts hl.1 ⟨Nat.le_of_ble_eq_true rfl, Nat.le_of_ble_eq_true rfl⟩ ⟨Nat.le_of_ble_eq_true rfl, Nat.le_of_ble_eq_true rfl⟩ hK hP hD hS hA [] rfl (by decide) rfl rfl rfl (Nat.le_of_ble_eq_true rfl) d_M_quotient_11 (fun H locs hP hD hS => ?_)
      have hP : va_P D cls [] H := hP
      have hD : va_D A [] := hD
      refine lv_iload_n hx hb d_M_quotient_14 rfl (lv_at hl 0 rfl) ?_
      refine lv_icmp_eq (tgt := 24) hx hb d_M_quotient_15 rfl (fun hc15 => ?_) (fun hc15 => ?_)
      · skip
        have hend : bI (BitVec.ofNat 8 q) = bI (gf_m a (gf_i b)) := congrArg bI ((gf_quo hb0).mp (bI_inj hc15))
        refine lv_iload_n hx hb d_M_quotient_24 rfl (lv_at hl 2 rfl) ?_
        exact sd_iret hx hb hr hlk hP hS (Nat.le_of_ble_eq_true rfl) (Nat.le_of_ble_eq_true rfl) (hend) d_M_quotient_25
      · skip
        have hle2 : q + 1 ≤ (gf_m a (gf_i b)).toNat := by
          rcases Nat.lt_or_eq_of_le hle with h | h
          · exact h
          · refine absurd ?_ hc15
            rw [(gf_quo (c := BitVec.ofNat 8 q) hb0).mpr (BitVec.eq_of_toNat_eq (by rw [BitVec.toNat_ofNat, Nat.mod_eq_of_lt (by omega)]; exact h))]
        refine lv_iinc hx hb d_M_quotient_18 hl (k := 2) rfl (v := bI (BitVec.ofNat 8 (q + 1))) (qu_inc (by omega)) (Nat.le_of_ble_eq_true rfl) (lv' := [(2, .int (bI (BitVec.ofNat 8 (q + 1)))), (0, .int (bI a)), (1, .int (bI b))]) rfl (fun ls hl => ?_)
        refine lv_goto (tgt := 2) hx hb d_M_quotient_21 rfl ?_
        have hl := lv_sub hl (l' := [(0, .int (bI a)), (1, .int (bI b)), (2, .int (bI (BitVec.ofNat 8 (q + 1))))]) [1, 2, 0] rfl
        exact ih2 _ (by omega) (q + 1) ls _ _ rfl (by omega) (hle2) hl hP hD hS
  exact loop2 _ (0) ls _ _ rfl (by omega) (Nat.zero_le _) hl hP hD hS
set_option maxHeartbeats 4000000 in
set_option maxRecDepth 100000 in
theorem c_M_thrown (l : Launch) (D : va_G) (cI cZ cQ : ClassId) (qm : Nat) (mp : Nat) (mt : Nat) (ml : Nat) (mc : Nat) (mf : Nat) (me : Nat) (mg : Nat) (mh : Nat) (mu : Nat) (k : Nat) (n : Nat) (pn : Nat) (nx : Nat) (cd : Int32) (ep : Int32) (M : mm_T) (wi : Int32) (jb : Int32) (fp : Int32) (tf : Int32) (tt : Int32) (fi : Int32) (ln : Int32) (bx : Int32) (pr : Nat → Int32) (tk : Nat → Int32) (le : Nat → Int32) (co : Nat → Int32) (fr : Nat → Int32) (em : Nat → Int32) (nb : Nat → Int32) (su : Nat → Int32) (hk : k ≤ 9) (hn : n ≤ 9) : sd_I l D (tyL cI cZ cQ) y_M_thrown b_M_thrown 1 (.int) ({ frames := 0, cells := 0, slots := 0, locals := 0 }) [.ref qm] (mW cI cZ qm mp mt ml mc mf me mg mh mu (cd) (nI k) (nI n) (nI (pn)) (nI (nx)) (ep) (nI (M.1)) (M.2.2.1) (M.2.2.2) (wi) (jb) (fp) (tf) (tt) (fi) (ln) (bx) (1000) (pr) (1000) (tk) (8) (le) (576) (co) (576) (fr) (10) (em) (192) (M.2.1) (10) (nb) (10) (su)) (cd) (mW cI cZ qm mp mt ml mc mf me mg mh mu (cd) (nI k) (nI n) (nI (pn)) (nI (nx)) (ep) (nI (M.1)) (M.2.2.1) (M.2.2.2) (wi) (jb) (fp) (tf) (tt) (fi) (ln) (bx) (1000) (pr) (1000) (tk) (8) (le) (576) (co) (576) (fr) (10) (em) (192) (M.2.1) (10) (nb) (10) (su)) := by
  refine sd_ofI (by decide) (Nat.le_of_ble_eq_true rfl) ?_
  intro p e s m below meth c A ls hx hb hr hml hlk hown hts hK hP hD hA hS hl
  have hl : lv_has ls 1 [(0, .ref qm)] := hl
  refine lv_aload_n hx hb d_M_thrown_0 rfl (lv_at hl 0 rfl) ?_
  refine va_get (D := D) (ci := 5) (v := .int (cd)) (C := R_M) (T := F_M) (N := 26) hx hb hts wl_M hown hK hP 0 rfl rfl 0 (by decide) (hts _ wf_M_51) (fun _ h9 => h9) rfl d_M_thrown_1 ?_
  exact sd_iret hx hb hr hlk hP hS (Nat.le_of_ble_eq_true rfl) (Nat.le_of_ble_eq_true rfl) (rfl) d_M_thrown_4
set_option maxHeartbeats 4000000 in
set_option maxRecDepth 100000 in
theorem c_M_pool (l : Launch) (D : va_G) (cI cZ cQ : ClassId) (qm : Nat) (mp : Nat) (mt : Nat) (ml : Nat) (mc : Nat) (mf : Nat) (me : Nat) (mg : Nat) (mh : Nat) (mu : Nat) (k : Nat) (n : Nat) (pn : Nat) (nx : Nat) (cd : Int32) (ep : Int32) (M : mm_T) (wi : Int32) (jb : Int32) (fp : Int32) (tf : Int32) (tt : Int32) (fi : Int32) (ln : Int32) (bx : Int32) (pr : Nat → Int32) (tk : Nat → Int32) (le : Nat → Int32) (co : Nat → Int32) (fr : Nat → Int32) (em : Nat → Int32) (nb : Nat → Int32) (su : Nat → Int32) (hk : k ≤ 9) (hn : n ≤ 9) : sd_I l D (tyL cI cZ cQ) y_M_pool b_M_pool 1 (.int) ({ frames := 0, cells := 0, slots := 0, locals := 0 }) [.ref qm] (mW cI cZ qm mp mt ml mc mf me mg mh mu (cd) (nI k) (nI n) (nI (pn)) (nI (nx)) (ep) (nI (M.1)) (M.2.2.1) (M.2.2.2) (wi) (jb) (fp) (tf) (tt) (fi) (ln) (bx) (1000) (pr) (1000) (tk) (8) (le) (576) (co) (576) (fr) (10) (em) (192) (M.2.1) (10) (nb) (10) (su)) (nI pn) (mW cI cZ qm mp mt ml mc mf me mg mh mu (0) (nI k) (nI n) (nI (pn)) (nI (nx)) (ep) (nI (M.1)) (M.2.2.1) (M.2.2.2) (wi) (jb) (fp) (tf) (tt) (fi) (ln) (bx) (1000) (pr) (1000) (tk) (8) (le) (576) (co) (576) (fr) (10) (em) (192) (M.2.1) (10) (nb) (10) (su)) := by
  refine sd_ofI (by decide) (Nat.le_of_ble_eq_true rfl) ?_
  intro p e s m below meth c A ls hx hb hr hml hlk hown hts hK hP hD hA hS hl
  have hl : lv_has ls 1 [(0, .ref qm)] := hl
  refine lv_aload_n hx hb d_M_pool_0 rfl (lv_at hl 0 rfl) ?_
  refine lv_iconst (v := 0) hx hb d_M_pool_1 (by decide) ?_
  refine va_put (D := D) (ci := 5) (v := .int (0)) (ty := .int) (C := R_M) (T := F_M) (N := 26) hx hb hts wl_M t_M t_M_ok n_M hown hK hP hD hS 0 rfl rfl 0 (by decide) (hts _ wf_M_51) (fun _ h9 => h9) rfl (by decide +kernel) rfl rfl (Nat.le_of_ble_eq_true rfl) d_M_pool_2 (fun H locs hP hD hS => ?_)
  have hP : va_P D cls (mW cI cZ qm mp mt ml mc mf me mg mh mu (0) (nI k) (nI n) (nI (pn)) (nI (nx)) (ep) (nI (M.1)) (M.2.2.1) (M.2.2.2) (wi) (jb) (fp) (tf) (tt) (fi) (ln) (bx) (1000) (pr) (1000) (tk) (8) (le) (576) (co) (576) (fr) (10) (em) (192) (M.2.1) (10) (nb) (10) (su)) H := hP
  have hD : va_D A (mW cI cZ qm mp mt ml mc mf me mg mh mu (0) (nI k) (nI n) (nI (pn)) (nI (nx)) (ep) (nI (M.1)) (M.2.2.1) (M.2.2.2) (wi) (jb) (fp) (tf) (tt) (fi) (ln) (bx) (1000) (pr) (1000) (tk) (8) (le) (576) (co) (576) (fr) (10) (em) (192) (M.2.1) (10) (nb) (10) (su)) := hD
  refine lv_aload_n hx hb d_M_pool_5 rfl (lv_at hl 0 rfl) ?_
  refine va_get (D := D) (ci := 5) (v := .int (nI (pn))) (C := R_M) (T := F_M) (N := 26) hx hb hts wl_M hown hK hP 0 rfl rfl 3 (by decide) (hts _ wf_M_58) (fun _ h9 => h9) rfl d_M_pool_6 ?_
  exact sd_iret hx hb hr hlk hP hS (Nat.le_of_ble_eq_true rfl) (Nat.le_of_ble_eq_true rfl) (rfl) d_M_pool_9
set_option maxHeartbeats 4000000 in
set_option maxRecDepth 100000 in
theorem c_M_epoch (l : Launch) (D : va_G) (cI cZ cQ : ClassId) (qm : Nat) (mp : Nat) (mt : Nat) (ml : Nat) (mc : Nat) (mf : Nat) (me : Nat) (mg : Nat) (mh : Nat) (mu : Nat) (k : Nat) (n : Nat) (pn : Nat) (nx : Nat) (cd : Int32) (ep : Int32) (M : mm_T) (wi : Int32) (jb : Int32) (fp : Int32) (tf : Int32) (tt : Int32) (fi : Int32) (ln : Int32) (bx : Int32) (pr : Nat → Int32) (tk : Nat → Int32) (le : Nat → Int32) (co : Nat → Int32) (fr : Nat → Int32) (em : Nat → Int32) (nb : Nat → Int32) (su : Nat → Int32) (hk : k ≤ 9) (hn : n ≤ 9) : sd_I l D (tyL cI cZ cQ) y_M_epoch b_M_epoch 1 (.int) ({ frames := 0, cells := 0, slots := 0, locals := 0 }) [.ref qm] (mW cI cZ qm mp mt ml mc mf me mg mh mu (cd) (nI k) (nI n) (nI (pn)) (nI (nx)) (ep) (nI (M.1)) (M.2.2.1) (M.2.2.2) (wi) (jb) (fp) (tf) (tt) (fi) (ln) (bx) (1000) (pr) (1000) (tk) (8) (le) (576) (co) (576) (fr) (10) (em) (192) (M.2.1) (10) (nb) (10) (su)) (ep) (mW cI cZ qm mp mt ml mc mf me mg mh mu (0) (nI k) (nI n) (nI (pn)) (nI (nx)) (ep) (nI (M.1)) (M.2.2.1) (M.2.2.2) (wi) (jb) (fp) (tf) (tt) (fi) (ln) (bx) (1000) (pr) (1000) (tk) (8) (le) (576) (co) (576) (fr) (10) (em) (192) (M.2.1) (10) (nb) (10) (su)) := by
  refine sd_ofI (by decide) (Nat.le_of_ble_eq_true rfl) ?_
  intro p e s m below meth c A ls hx hb hr hml hlk hown hts hK hP hD hA hS hl
  have hl : lv_has ls 1 [(0, .ref qm)] := hl
  refine lv_aload_n hx hb d_M_epoch_0 rfl (lv_at hl 0 rfl) ?_
  refine lv_iconst (v := 0) hx hb d_M_epoch_1 (by decide) ?_
  refine va_put (D := D) (ci := 5) (v := .int (0)) (ty := .int) (C := R_M) (T := F_M) (N := 26) hx hb hts wl_M t_M t_M_ok n_M hown hK hP hD hS 0 rfl rfl 0 (by decide) (hts _ wf_M_51) (fun _ h9 => h9) rfl (by decide +kernel) rfl rfl (Nat.le_of_ble_eq_true rfl) d_M_epoch_2 (fun H locs hP hD hS => ?_)
  have hP : va_P D cls (mW cI cZ qm mp mt ml mc mf me mg mh mu (0) (nI k) (nI n) (nI (pn)) (nI (nx)) (ep) (nI (M.1)) (M.2.2.1) (M.2.2.2) (wi) (jb) (fp) (tf) (tt) (fi) (ln) (bx) (1000) (pr) (1000) (tk) (8) (le) (576) (co) (576) (fr) (10) (em) (192) (M.2.1) (10) (nb) (10) (su)) H := hP
  have hD : va_D A (mW cI cZ qm mp mt ml mc mf me mg mh mu (0) (nI k) (nI n) (nI (pn)) (nI (nx)) (ep) (nI (M.1)) (M.2.2.1) (M.2.2.2) (wi) (jb) (fp) (tf) (tt) (fi) (ln) (bx) (1000) (pr) (1000) (tk) (8) (le) (576) (co) (576) (fr) (10) (em) (192) (M.2.1) (10) (nb) (10) (su)) := hD
  refine lv_aload_n hx hb d_M_epoch_5 rfl (lv_at hl 0 rfl) ?_
  refine va_get (D := D) (ci := 5) (v := .int (ep)) (C := R_M) (T := F_M) (N := 26) hx hb hts wl_M hown hK hP 0 rfl rfl 10 (by decide) (hts _ wf_M_109) (fun _ h9 => h9) rfl d_M_epoch_6 ?_
  exact sd_iret hx hb hr hlk hP hS (Nat.le_of_ble_eq_true rfl) (Nat.le_of_ble_eq_true rfl) (rfl) d_M_epoch_9
set_option maxHeartbeats 4000000 in
set_option maxRecDepth 100000 in
theorem c_M_sent (l : Launch) (D : va_G) (cI cZ cQ : ClassId) (qm : Nat) (mp : Nat) (mt : Nat) (ml : Nat) (mc : Nat) (mf : Nat) (me : Nat) (mg : Nat) (mh : Nat) (mu : Nat) (k : Nat) (n : Nat) (pn : Nat) (nx : Nat) (cd : Int32) (ep : Int32) (M : mm_T) (wi : Int32) (jb : Int32) (fp : Int32) (tf : Int32) (tt : Int32) (fi : Int32) (ln : Int32) (bx : Int32) (pr : Nat → Int32) (tk : Nat → Int32) (le : Nat → Int32) (co : Nat → Int32) (fr : Nat → Int32) (em : Nat → Int32) (nb : Nat → Int32) (su : Nat → Int32) (hk : k ≤ 9) (hn : n ≤ 9) : sd_I l D (tyL cI cZ cQ) y_M_sent b_M_sent 1 (.int) ({ frames := 0, cells := 0, slots := 0, locals := 0 }) [.ref qm] (mW cI cZ qm mp mt ml mc mf me mg mh mu (cd) (nI k) (nI n) (nI (pn)) (nI (nx)) (ep) (nI (M.1)) (M.2.2.1) (M.2.2.2) (wi) (jb) (fp) (tf) (tt) (fi) (ln) (bx) (1000) (pr) (1000) (tk) (8) (le) (576) (co) (576) (fr) (10) (em) (192) (M.2.1) (10) (nb) (10) (su)) (nI M.1) (mW cI cZ qm mp mt ml mc mf me mg mh mu (0) (nI k) (nI n) (nI (pn)) (nI (nx)) (ep) (nI (M.1)) (M.2.2.1) (M.2.2.2) (wi) (jb) (fp) (tf) (tt) (fi) (ln) (bx) (1000) (pr) (1000) (tk) (8) (le) (576) (co) (576) (fr) (10) (em) (192) (M.2.1) (10) (nb) (10) (su)) := by
  refine sd_ofI (by decide) (Nat.le_of_ble_eq_true rfl) ?_
  intro p e s m below meth c A ls hx hb hr hml hlk hown hts hK hP hD hA hS hl
  have hl : lv_has ls 1 [(0, .ref qm)] := hl
  refine lv_aload_n hx hb d_M_sent_0 rfl (lv_at hl 0 rfl) ?_
  refine lv_iconst (v := 0) hx hb d_M_sent_1 (by decide) ?_
  refine va_put (D := D) (ci := 5) (v := .int (0)) (ty := .int) (C := R_M) (T := F_M) (N := 26) hx hb hts wl_M t_M t_M_ok n_M hown hK hP hD hS 0 rfl rfl 0 (by decide) (hts _ wf_M_51) (fun _ h9 => h9) rfl (by decide +kernel) rfl rfl (Nat.le_of_ble_eq_true rfl) d_M_sent_2 (fun H locs hP hD hS => ?_)
  have hP : va_P D cls (mW cI cZ qm mp mt ml mc mf me mg mh mu (0) (nI k) (nI n) (nI (pn)) (nI (nx)) (ep) (nI (M.1)) (M.2.2.1) (M.2.2.2) (wi) (jb) (fp) (tf) (tt) (fi) (ln) (bx) (1000) (pr) (1000) (tk) (8) (le) (576) (co) (576) (fr) (10) (em) (192) (M.2.1) (10) (nb) (10) (su)) H := hP
  have hD : va_D A (mW cI cZ qm mp mt ml mc mf me mg mh mu (0) (nI k) (nI n) (nI (pn)) (nI (nx)) (ep) (nI (M.1)) (M.2.2.1) (M.2.2.2) (wi) (jb) (fp) (tf) (tt) (fi) (ln) (bx) (1000) (pr) (1000) (tk) (8) (le) (576) (co) (576) (fr) (10) (em) (192) (M.2.1) (10) (nb) (10) (su)) := hD
  refine lv_aload_n hx hb d_M_sent_5 rfl (lv_at hl 0 rfl) ?_
  refine va_get (D := D) (ci := 5) (v := .int (nI (M.1))) (C := R_M) (T := F_M) (N := 26) hx hb hts wl_M hown hK hP 0 rfl rfl 12 (by decide) (hts _ wf_M_70) (fun _ h9 => h9) rfl d_M_sent_6 ?_
  exact sd_iret hx hb hr hlk hP hS (Nat.le_of_ble_eq_true rfl) (Nat.le_of_ble_eq_true rfl) (rfl) d_M_sent_9
set_option maxHeartbeats 4000000 in
set_option maxRecDepth 100000 in
theorem c_M_total (l : Launch) (D : va_G) (cI cZ cQ : ClassId) (qm : Nat) (mp : Nat) (mt : Nat) (ml : Nat) (mc : Nat) (mf : Nat) (me : Nat) (mg : Nat) (mh : Nat) (mu : Nat) (k : Nat) (n : Nat) (pn : Nat) (nx : Nat) (cd : Int32) (ep : Int32) (M : mm_T) (wi : Int32) (jb : Int32) (fp : Int32) (tf : Int32) (tt : Int32) (fi : Int32) (ln : Int32) (bx : Int32) (pr : Nat → Int32) (tk : Nat → Int32) (le : Nat → Int32) (co : Nat → Int32) (fr : Nat → Int32) (em : Nat → Int32) (nb : Nat → Int32) (su : Nat → Int32) (lz : Nat → Nat) (hk : k ≤ 9) (hn : n ≤ 9) (hle : ∀ i, i < 8 → le i = nI (lz i)) : sd_I l D (tyL cI cZ cQ) y_M_total b_M_total 3 (.int) ({ frames := 0, cells := 0, slots := 0, locals := 0 }) [.ref qm] (mW cI cZ qm mp mt ml mc mf me mg mh mu (cd) (nI k) (nI n) (nI (pn)) (nI (nx)) (ep) (nI (M.1)) (M.2.2.1) (M.2.2.2) (wi) (jb) (fp) (tf) (tt) (fi) (ln) (bx) (1000) (pr) (1000) (tk) (8) (le) (576) (co) (576) (fr) (10) (em) (192) (M.2.1) (10) (nb) (10) (su)) (nI (sm_b lz 8)) (mW cI cZ qm mp mt ml mc mf me mg mh mu (cd) (nI k) (nI n) (nI (pn)) (nI (nx)) (ep) (nI (M.1)) (M.2.2.1) (M.2.2.2) (wi) (jb) (fp) (tf) (tt) (fi) (ln) (bx) (1000) (pr) (1000) (tk) (8) (le) (576) (co) (576) (fr) (10) (em) (192) (M.2.1) (10) (nb) (10) (su)) := by
  refine sd_ofI (by decide) (Nat.le_of_ble_eq_true rfl) ?_
  intro p e s m below meth c A ls hx hb hr hml hlk hown hts hK hP hD hA hS hl
  have hl : lv_has ls 3 [(0, .ref qm)] := hl
  refine lv_iconst (v := 0) hx hb d_M_total_0 (by decide) ?_
  refine sd_top (y := nI 0) (rfl) ?_
  refine lv_istore_n hx hb d_M_total_1 rfl hl (Nat.le_of_ble_eq_true rfl) (lv' := [(1, .int (nI 0)), (0, .ref qm)]) rfl (fun ls hl => ?_)
  refine lv_iconst (v := 0) hx hb d_M_total_2 (by decide) ?_
  refine sd_top (y := nI 0) (rfl) ?_
  refine lv_istore_n hx hb d_M_total_3 rfl hl (Nat.le_of_ble_eq_true rfl) (lv' := [(2, .int (nI 0)), (1, .int (nI 0)), (0, .ref qm)]) rfl (fun ls hl => ?_)
  have hl := lv_sub hl (l' := [(0, .ref qm), (1, .int (nI 0)), (2, .int (nI 0))]) [2, 1, 0] rfl
  have loop4 : ∀ (d : Nat) (f : Nat) (ls : Array Slot) (H : Heap) (locs : List Loc), 8 - f = d → (f ≤ 8) → lv_has ls 3 [(0, .ref qm), (1, .int (nI (sm_b lz f))), (2, .int (nI (f)))] → va_P D cls (mW cI cZ qm mp mt ml mc mf me mg mh mu (cd) (nI k) (nI n) (nI (pn)) (nI (nx)) (ep) (nI (M.1)) (M.2.2.1) (M.2.2.2) (wi) (jb) (fp) (tf) (tt) (fi) (ln) (bx) (1000) (pr) (1000) (tk) (8) (le) (576) (co) (576) (fr) (10) (em) (192) (M.2.1) (10) (nb) (10) (su)) H → va_D A (mW cI cZ qm mp mt ml mc mf me mg mh mu (cd) (nI k) (nI n) (nI (pn)) (nI (nx)) (ep) (nI (M.1)) (M.2.2.1) (M.2.2.2) (wi) (jb) (fp) (tf) (tt) (fi) (ln) (bx) (1000) (pr) (1000) (tk) (8) (le) (576) (co) (576) (fr) (10) (em) (192) (M.2.1) (10) (nb) (10) (su)) → va_S A s.heap H locs → W p l e ({ frames := 0, cells := 0, slots := 0, locals := 0 }) s m ([.ref qm] : List Value).toArray below meth c H locs 0 0 (MQ below (sd_qi D (nI (sm_b lz 8)) (mW cI cZ qm mp mt ml mc mf me mg mh mu (cd) (nI k) (nI n) (nI (pn)) (nI (nx)) (ep) (nI (M.1)) (M.2.2.1) (M.2.2.2) (wi) (jb) (fp) (tf) (tt) (fi) (ln) (bx) (1000) (pr) (1000) (tk) (8) (le) (576) (co) (576) (fr) (10) (em) (192) (M.2.1) (10) (nb) (10) (su)) A) ([.ref qm] : List Value).toArray s 0 0 A) (F0 m 4 ls []) := by
    intro d
    induction d using Nat.strongRecOn with
    | _ d ih4 =>
    intro f ls H locs hd hf8 hl hP hD hS
    subst hd
    refine lv_iload_n hx hb d_M_total_4 rfl (lv_at hl 2 rfl) ?_
    refine lv_bipush (v := nI 8) hx hb d_M_total_5 (by decide) ?_
    refine lv_icmp_ge (tgt := 25) hx hb d_M_total_7 rfl (fun hc7 => ?_) (fun hc7 => ?_)
    · skip
      rw [nI_leI (by omega) (by omega)] at hc7
      refine lv_iload_n hx hb d_M_total_25 rfl (lv_at hl 1 rfl) ?_
      have hf8 : 8 = f := by omega
      subst hf8
      exact sd_iret hx hb hr hlk hP hS (Nat.le_of_ble_eq_true rfl) (Nat.le_of_ble_eq_true rfl) (rfl) d_M_total_26
    · skip
      rw [nI_leI (by omega) (by omega)] at hc7
      refine lv_iload_n hx hb d_M_total_10 rfl (lv_at hl 1 rfl) ?_
      refine lv_aload_n hx hb d_M_total_11 rfl (lv_at hl 0 rfl) ?_
      refine va_get (D := D) (ci := 5) (v := .ref ml) (C := R_M) (T := F_M) (N := 26) hx hb hts wl_M hown hK hP 0 rfl rfl 7 (by decide) (hts _ wf_M_16) (fun _ h9 => h9) rfl d_M_total_12 ?_
      refine lv_iload_n hx hb d_M_total_15 rfl (lv_at hl 2 rfl) ?_
      refine sd_iald (j := f) hx hb hK hP 3 0 rfl rfl (by omega) (by omega) d_M_total_16 ?_
      refine sd_top (y := nI (lz f)) (hle f (by omega)) ?_
      refine lv_iadd hx hb d_M_total_17 ?_
      refine sd_top (y := nI (sm_b lz f + lz f)) (nI_add _ _) ?_
      refine lv_istore_n hx hb d_M_total_18 rfl hl (Nat.le_of_ble_eq_true rfl) (lv' := [(1, .int (nI (sm_b lz f + lz f))), (0, .ref qm), (2, .int (nI (f)))]) rfl (fun ls hl => ?_)
      refine lv_iinc hx hb d_M_total_19 hl (k := 2) rfl (v := nI (f + 1)) (ii_1 _) (Nat.le_of_ble_eq_true rfl) (lv' := [(2, .int (nI (f + 1))), (1, .int (nI (sm_b lz f + lz f))), (0, .ref qm)]) rfl (fun ls hl => ?_)
      refine lv_goto (tgt := 4) hx hb d_M_total_22 rfl ?_
      have hl := lv_sub hl (l' := [(0, .ref qm), (1, .int (nI (sm_b lz f + lz f))), (2, .int (nI (f + 1)))]) [2, 1, 0] rfl
      exact ih4 _ (by omega) (f + 1) ls _ _ rfl (by omega) hl hP hD hS
  exact loop4 _ (0) ls _ _ rfl (Nat.zero_le _) hl hP hD hS
set_option maxHeartbeats 4000000 in
set_option maxRecDepth 100000 in
theorem c_M_kept (l : Launch) (D : va_G) (cI cZ cQ : ClassId) (qm : Nat) (mp : Nat) (mt : Nat) (ml : Nat) (mc : Nat) (mf : Nat) (me : Nat) (mg : Nat) (mh : Nat) (mu : Nat) (k : Nat) (n : Nat) (pn : Nat) (nx : Nat) (cd : Int32) (ep : Int32) (M : mm_T) (wi : Int32) (jb : Int32) (fp : Int32) (tf : Int32) (tt : Int32) (fi : Int32) (ln : Int32) (bx : Int32) (pr : Nat → Int32) (tk : Nat → Int32) (le : Nat → Int32) (co : Nat → Int32) (fr : Nat → Int32) (em : Nat → Int32) (nb : Nat → Int32) (su : Nat → Int32) (lz : Nat → Nat) (hk : k ≤ 9) (hn : n ≤ 9) (hle : ∀ i, i < 8 → le i = nI (lz i)) (hln : ∀ i, i < 8 → lz i ≤ 8) : sd_I l D (tyL cI cZ cQ) y_M_kept b_M_kept 3 (.int) ({ frames := 0, cells := 0, slots := 0, locals := 0 }) [.ref qm] (mW cI cZ qm mp mt ml mc mf me mg mh mu (cd) (nI k) (nI n) (nI (pn)) (nI (nx)) (ep) (nI (M.1)) (M.2.2.1) (M.2.2.2) (wi) (jb) (fp) (tf) (tt) (fi) (ln) (bx) (1000) (pr) (1000) (tk) (8) (le) (576) (co) (576) (fr) (10) (em) (192) (M.2.1) (10) (nb) (10) (su)) (nI (sm_k lz 8)) (mW cI cZ qm mp mt ml mc mf me mg mh mu (cd) (nI k) (nI n) (nI (pn)) (nI (nx)) (ep) (nI (M.1)) (M.2.2.1) (M.2.2.2) (wi) (jb) (fp) (tf) (tt) (fi) (ln) (bx) (1000) (pr) (1000) (tk) (8) (le) (576) (co) (576) (fr) (10) (em) (192) (M.2.1) (10) (nb) (10) (su)) := by
  refine sd_ofI (by decide) (Nat.le_of_ble_eq_true rfl) ?_
  intro p e s m below meth c A ls hx hb hr hml hlk hown hts hK hP hD hA hS hl
  have hl : lv_has ls 3 [(0, .ref qm)] := hl
  refine lv_iconst (v := 0) hx hb d_M_kept_0 (by decide) ?_
  refine sd_top (y := nI 0) (rfl) ?_
  refine lv_istore_n hx hb d_M_kept_1 rfl hl (Nat.le_of_ble_eq_true rfl) (lv' := [(1, .int (nI 0)), (0, .ref qm)]) rfl (fun ls hl => ?_)
  refine lv_iconst (v := 0) hx hb d_M_kept_2 (by decide) ?_
  refine sd_top (y := nI 0) (rfl) ?_
  refine lv_istore_n hx hb d_M_kept_3 rfl hl (Nat.le_of_ble_eq_true rfl) (lv' := [(2, .int (nI 0)), (1, .int (nI 0)), (0, .ref qm)]) rfl (fun ls hl => ?_)
  have hl := lv_sub hl (l' := [(0, .ref qm), (1, .int (nI 0)), (2, .int (nI 0))]) [2, 1, 0] rfl
  have loop4 : ∀ (d : Nat) (f : Nat) (ls : Array Slot) (H : Heap) (locs : List Loc), 8 - f = d → (f ≤ 8) → lv_has ls 3 [(0, .ref qm), (1, .int (nI (sm_k lz f))), (2, .int (nI (f)))] → va_P D cls (mW cI cZ qm mp mt ml mc mf me mg mh mu (cd) (nI k) (nI n) (nI (pn)) (nI (nx)) (ep) (nI (M.1)) (M.2.2.1) (M.2.2.2) (wi) (jb) (fp) (tf) (tt) (fi) (ln) (bx) (1000) (pr) (1000) (tk) (8) (le) (576) (co) (576) (fr) (10) (em) (192) (M.2.1) (10) (nb) (10) (su)) H → va_D A (mW cI cZ qm mp mt ml mc mf me mg mh mu (cd) (nI k) (nI n) (nI (pn)) (nI (nx)) (ep) (nI (M.1)) (M.2.2.1) (M.2.2.2) (wi) (jb) (fp) (tf) (tt) (fi) (ln) (bx) (1000) (pr) (1000) (tk) (8) (le) (576) (co) (576) (fr) (10) (em) (192) (M.2.1) (10) (nb) (10) (su)) → va_S A s.heap H locs → W p l e ({ frames := 0, cells := 0, slots := 0, locals := 0 }) s m ([.ref qm] : List Value).toArray below meth c H locs 0 0 (MQ below (sd_qi D (nI (sm_k lz 8)) (mW cI cZ qm mp mt ml mc mf me mg mh mu (cd) (nI k) (nI n) (nI (pn)) (nI (nx)) (ep) (nI (M.1)) (M.2.2.1) (M.2.2.2) (wi) (jb) (fp) (tf) (tt) (fi) (ln) (bx) (1000) (pr) (1000) (tk) (8) (le) (576) (co) (576) (fr) (10) (em) (192) (M.2.1) (10) (nb) (10) (su)) A) ([.ref qm] : List Value).toArray s 0 0 A) (F0 m 4 ls []) := by
    intro d
    induction d using Nat.strongRecOn with
    | _ d ih4 =>
    intro f ls H locs hd hf8 hl hP hD hS
    subst hd
    refine lv_iload_n hx hb d_M_kept_4 rfl (lv_at hl 2 rfl) ?_
    refine lv_bipush (v := nI 8) hx hb d_M_kept_5 (by decide) ?_
    refine lv_icmp_ge (tgt := 33) hx hb d_M_kept_7 rfl (fun hc7 => ?_) (fun hc7 => ?_)
    · skip
      rw [nI_leI (by omega) (by omega)] at hc7
      refine lv_iload_n hx hb d_M_kept_33 rfl (lv_at hl 1 rfl) ?_
      have hf8 : 8 = f := by omega
      subst hf8
      exact sd_iret hx hb hr hlk hP hS (Nat.le_of_ble_eq_true rfl) (Nat.le_of_ble_eq_true rfl) (rfl) d_M_kept_34
    · skip
      rw [nI_leI (by omega) (by omega)] at hc7
      have hl9 := hln f (by omega)
      refine lv_aload_n hx hb d_M_kept_10 rfl (lv_at hl 0 rfl) ?_
      refine va_get (D := D) (ci := 5) (v := .ref ml) (C := R_M) (T := F_M) (N := 26) hx hb hts wl_M hown hK hP 0 rfl rfl 7 (by decide) (hts _ wf_M_16) (fun _ h9 => h9) rfl d_M_kept_11 ?_
      refine lv_iload_n hx hb d_M_kept_14 rfl (lv_at hl 2 rfl) ?_
      refine sd_iald (j := f) hx hb hK hP 3 0 rfl rfl (by omega) (by omega) d_M_kept_15 ?_
      refine sd_top (y := nI (lz f)) (hle f (by omega)) ?_
      refine lv_if_le (tgt := 25) hx hb d_M_kept_16 rfl (fun hc16 => ?_) (fun hc16 => ?_)
      · skip
        have hf1 : ¬ 0 < lz f := by rw [show (0 : Int32) = nI 0 from rfl, nI_leI (by omega) (by omega)] at hc16; omega
        refine lv_iload_n hx hb d_M_kept_25 rfl (lv_at hl 1 rfl) ?_
        refine sd_top (y := nI (sm_k lz (f + 1))) (by rw [sm_k0 hf1]) ?_
        refine lv_istore_n hx hb d_M_kept_26 rfl hl (Nat.le_of_ble_eq_true rfl) (lv' := [(1, .int (nI (sm_k lz (f + 1)))), (0, .ref qm), (2, .int (nI (f)))]) rfl (fun ls hl => ?_)
        refine lv_iinc hx hb d_M_kept_27 hl (k := 2) rfl (v := nI (f + 1)) (ii_1 _) (Nat.le_of_ble_eq_true rfl) (lv' := [(2, .int (nI (f + 1))), (1, .int (nI (sm_k lz (f + 1)))), (0, .ref qm)]) rfl (fun ls hl => ?_)
        refine lv_goto (tgt := 4) hx hb d_M_kept_30 rfl ?_
        have hl := lv_sub hl (l' := [(0, .ref qm), (1, .int (nI (sm_k lz (f + 1)))), (2, .int (nI (f + 1)))]) [2, 1, 0] rfl
        exact ih4 _ (by omega) (f + 1) ls _ _ rfl (by omega) hl hP hD hS
      · skip
        have hf1 : 0 < lz f := by rw [show (0 : Int32) = nI 0 from rfl, nI_leI (by omega) (by omega)] at hc16; omega
        refine lv_iload_n hx hb d_M_kept_19 rfl (lv_at hl 1 rfl) ?_
        refine lv_iconst (v := 1) hx hb d_M_kept_20 (by decide) ?_
        refine lv_iadd hx hb d_M_kept_21 ?_
        refine sd_top (y := nI (sm_k lz (f + 1))) (by rw [nI_1, sm_k1 hf1]) ?_
        refine lv_goto (tgt := 26) hx hb d_M_kept_22 rfl ?_
        refine lv_istore_n hx hb d_M_kept_26 rfl hl (Nat.le_of_ble_eq_true rfl) (lv' := [(1, .int (nI (sm_k lz (f + 1)))), (0, .ref qm), (2, .int (nI (f)))]) rfl (fun ls hl => ?_)
        refine lv_iinc hx hb d_M_kept_27 hl (k := 2) rfl (v := nI (f + 1)) (ii_1 _) (Nat.le_of_ble_eq_true rfl) (lv' := [(2, .int (nI (f + 1))), (1, .int (nI (sm_k lz (f + 1)))), (0, .ref qm)]) rfl (fun ls hl => ?_)
        refine lv_goto (tgt := 4) hx hb d_M_kept_30 rfl ?_
        have hl := lv_sub hl (l' := [(0, .ref qm), (1, .int (nI (sm_k lz (f + 1)))), (2, .int (nI (f + 1)))]) [2, 1, 0] rfl
        exact ih4 _ (by omega) (f + 1) ls _ _ rfl (by omega) hl hP hD hS
  exact loop4 _ (0) ls _ _ rfl (Nat.zero_le _) hl hP hD hS
set_option maxHeartbeats 4000000 in
set_option maxRecDepth 100000 in
theorem c_M_files (l : Launch) (D : va_G) (cI cZ cQ : ClassId) (qm : Nat) (mp : Nat) (mt : Nat) (ml : Nat) (mc : Nat) (mf : Nat) (me : Nat) (mg : Nat) (mh : Nat) (mu : Nat) (k : Nat) (n : Nat) (pn : Nat) (nx : Nat) (cd : Int32) (ep : Int32) (M : mm_T) (wi : Int32) (jb : Int32) (fp : Int32) (tf : Int32) (tt : Int32) (fi : Int32) (ln : Int32) (bx : Int32) (pr : Nat → Int32) (tk : Nat → Int32) (le : Nat → Int32) (co : Nat → Int32) (fr : Nat → Int32) (em : Nat → Int32) (nb : Nat → Int32) (su : Nat → Int32) (lz : Nat → Nat) (hk : k ≤ 9) (hn : n ≤ 9) (hle : ∀ i, i < 8 → le i = nI (lz i)) (hln : ∀ i, i < 8 → lz i ≤ 8) : sd_I l D (tyL cI cZ cQ) y_M_files b_M_files 1 (.int) ({ frames := 1, cells := 0, slots := 0, locals := 22 }) [.ref qm] (mW cI cZ qm mp mt ml mc mf me mg mh mu (cd) (nI k) (nI n) (nI (pn)) (nI (nx)) (ep) (nI (M.1)) (M.2.2.1) (M.2.2.2) (wi) (jb) (fp) (tf) (tt) (fi) (ln) (bx) (1000) (pr) (1000) (tk) (8) (le) (576) (co) (576) (fr) (10) (em) (192) (M.2.1) (10) (nb) (10) (su)) (nI (sm_k lz 8)) (mW cI cZ qm mp mt ml mc mf me mg mh mu (0) (nI k) (nI n) (nI (pn)) (nI (nx)) (ep) (nI (M.1)) (M.2.2.1) (M.2.2.2) (wi) (jb) (fp) (tf) (tt) (fi) (ln) (bx) (1000) (pr) (1000) (tk) (8) (le) (576) (co) (576) (fr) (10) (em) (192) (M.2.1) (10) (nb) (10) (su)) := by
  refine sd_ofI (by decide) (Nat.le_of_ble_eq_true rfl) ?_
  intro p e s m below meth c A ls hx hb hr hml hlk hown hts hK hP hD hA hS hl
  have hl : lv_has ls 1 [(0, .ref qm)] := hl
  refine lv_aload_n hx hb d_M_files_0 rfl (lv_at hl 0 rfl) ?_
  refine lv_iconst (v := 0) hx hb d_M_files_1 (by decide) ?_
  refine va_put (D := D) (ci := 5) (v := .int (0)) (ty := .int) (C := R_M) (T := F_M) (N := 26) hx hb hts wl_M t_M t_M_ok n_M hown hK hP hD hS 0 rfl rfl 0 (by decide) (hts _ wf_M_51) (fun _ h9 => h9) rfl (by decide +kernel) rfl rfl (Nat.le_of_ble_eq_true rfl) d_M_files_2 (fun H locs hP hD hS => ?_)
  have hP : va_P D cls (mW cI cZ qm mp mt ml mc mf me mg mh mu (0) (nI k) (nI n) (nI (pn)) (nI (nx)) (ep) (nI (M.1)) (M.2.2.1) (M.2.2.2) (wi) (jb) (fp) (tf) (tt) (fi) (ln) (bx) (1000) (pr) (1000) (tk) (8) (le) (576) (co) (576) (fr) (10) (em) (192) (M.2.1) (10) (nb) (10) (su)) H := hP
  have hD : va_D A (mW cI cZ qm mp mt ml mc mf me mg mh mu (0) (nI k) (nI n) (nI (pn)) (nI (nx)) (ep) (nI (M.1)) (M.2.2.1) (M.2.2.2) (wi) (jb) (fp) (tf) (tt) (fi) (ln) (bx) (1000) (pr) (1000) (tk) (8) (le) (576) (co) (576) (fr) (10) (em) (192) (M.2.1) (10) (nb) (10) (su)) := hD
  refine lv_aload_n hx hb d_M_files_5 rfl (lv_at hl 0 rfl) ?_
  refine sd_allVI (As := []) (rest := []) (w1 := (mW cI cZ qm mp mt ml mc mf me mg mh mu (0) (nI k) (nI n) (nI (pn)) (nI (nx)) (ep) (nI (M.1)) (M.2.2.1) (M.2.2.2) (wi) (jb) (fp) (tf) (tt) (fi) (ln) (bx) (1000) (pr) (1000) (tk) (8) (le) (576) (co) (576) (fr) (10) (em) (192) (M.2.1) (10) (nb) (10) (su))) (c_M_kept l D cI cZ cQ (qm) (mp) (mt) (ml) (mc) (mf) (me) (mg) (mh) (mu) (k) (n) (pn) (nx) (0) (ep) (M) (wi) (jb) (fp) (tf) (tt) (fi) (ln) (bx) (pr) (tk) (le) (co) (fr) (em) (nb) (su) (lz) (hk) (hn) (hle) (hln)) ⟨wc_M_kept, wm_M_152, wi_M, by decide, by decide, show (parseMethodDescriptor y_M_kept.desc).map (fun d => d.parameters.length) = some 0 by decide +kernel⟩ wo_M_kept wz_M_kept hx hb hml hown hts hl.1 ⟨Nat.le_of_ble_eq_true rfl, Nat.le_of_ble_eq_true rfl⟩ ⟨Nat.le_of_ble_eq_true rfl, Nat.le_of_ble_eq_true rfl⟩ hK hP hD hS hA (rfl) (q0 := 0) rfl rfl rfl (Nat.le_of_ble_eq_true rfl) d_M_files_6 (fun H locs hP hD hS => ?_)
  have hP : va_P D cls (mW cI cZ qm mp mt ml mc mf me mg mh mu (0) (nI k) (nI n) (nI (pn)) (nI (nx)) (ep) (nI (M.1)) (M.2.2.1) (M.2.2.2) (wi) (jb) (fp) (tf) (tt) (fi) (ln) (bx) (1000) (pr) (1000) (tk) (8) (le) (576) (co) (576) (fr) (10) (em) (192) (M.2.1) (10) (nb) (10) (su)) H := hP
  have hD : va_D A (mW cI cZ qm mp mt ml mc mf me mg mh mu (0) (nI k) (nI n) (nI (pn)) (nI (nx)) (ep) (nI (M.1)) (M.2.2.1) (M.2.2.2) (wi) (jb) (fp) (tf) (tt) (fi) (ln) (bx) (1000) (pr) (1000) (tk) (8) (le) (576) (co) (576) (fr) (10) (em) (192) (M.2.1) (10) (nb) (10) (su)) := hD
  exact sd_iret hx hb hr hlk hP hS (Nat.le_of_ble_eq_true rfl) (Nat.le_of_ble_eq_true rfl) (rfl) d_M_files_9
set_option maxHeartbeats 4000000 in
set_option maxRecDepth 100000 in
theorem c_M_filled (l : Launch) (D : va_G) (cI cZ cQ : ClassId) (qm : Nat) (mp : Nat) (mt : Nat) (ml : Nat) (mc : Nat) (mf : Nat) (me : Nat) (mg : Nat) (mh : Nat) (mu : Nat) (k : Nat) (n : Nat) (pn : Nat) (nx : Nat) (cd : Int32) (ep : Int32) (M : mm_T) (wi : Int32) (jb : Int32) (fp : Int32) (tf : Int32) (tt : Int32) (fi : Int32) (ln : Int32) (bx : Int32) (pr : Nat → Int32) (tk : Nat → Int32) (le : Nat → Int32) (co : Nat → Int32) (fr : Nat → Int32) (em : Nat → Int32) (nb : Nat → Int32) (su : Nat → Int32) (hk : k ≤ 9) (hn : n ≤ 9) : sd_I l D (tyL cI cZ cQ) y_M_filled b_M_filled 3 (.int) ({ frames := 0, cells := 0, slots := 0, locals := 0 }) [.ref qm] (mW cI cZ qm mp mt ml mc mf me mg mh mu (cd) (nI k) (nI n) (nI (pn)) (nI (nx)) (ep) (nI (M.1)) (M.2.2.1) (M.2.2.2) (wi) (jb) (fp) (tf) (tt) (fi) (ln) (bx) (1000) (pr) (1000) (tk) (8) (le) (576) (co) (576) (fr) (10) (em) (192) (M.2.1) (10) (nb) (10) (su)) (nI (sm_e em n)) (mW cI cZ qm mp mt ml mc mf me mg mh mu (cd) (nI k) (nI n) (nI (pn)) (nI (nx)) (ep) (nI (M.1)) (M.2.2.1) (M.2.2.2) (wi) (jb) (fp) (tf) (tt) (fi) (ln) (bx) (1000) (pr) (1000) (tk) (8) (le) (576) (co) (576) (fr) (10) (em) (192) (M.2.1) (10) (nb) (10) (su)) := by
  refine sd_ofI (by decide) (Nat.le_of_ble_eq_true rfl) ?_
  intro p e s m below meth c A ls hx hb hr hml hlk hown hts hK hP hD hA hS hl
  have hl : lv_has ls 3 [(0, .ref qm)] := hl
  refine lv_iconst (v := 0) hx hb d_M_filled_0 (by decide) ?_
  refine sd_top (y := nI 0) (rfl) ?_
  refine lv_istore_n hx hb d_M_filled_1 rfl hl (Nat.le_of_ble_eq_true rfl) (lv' := [(1, .int (nI 0)), (0, .ref qm)]) rfl (fun ls hl => ?_)
  refine lv_iconst (v := 1) hx hb d_M_filled_2 (by decide) ?_
  refine sd_top (y := nI (0 + 1)) (rfl) ?_
  refine lv_istore_n hx hb d_M_filled_3 rfl hl (Nat.le_of_ble_eq_true rfl) (lv' := [(2, .int (nI (0 + 1))), (1, .int (nI 0)), (0, .ref qm)]) rfl (fun ls hl => ?_)
  have hl := lv_sub hl (l' := [(0, .ref qm), (1, .int (nI 0)), (2, .int (nI (0 + 1)))]) [2, 1, 0] rfl
  have loop4 : ∀ (d : Nat) (b : Nat) (ls : Array Slot) (H : Heap) (locs : List Loc), n - b = d → (b ≤ n) → lv_has ls 3 [(0, .ref qm), (1, .int (nI (sm_e em b))), (2, .int (nI (b + 1)))] → va_P D cls (mW cI cZ qm mp mt ml mc mf me mg mh mu (cd) (nI k) (nI n) (nI (pn)) (nI (nx)) (ep) (nI (M.1)) (M.2.2.1) (M.2.2.2) (wi) (jb) (fp) (tf) (tt) (fi) (ln) (bx) (1000) (pr) (1000) (tk) (8) (le) (576) (co) (576) (fr) (10) (em) (192) (M.2.1) (10) (nb) (10) (su)) H → va_D A (mW cI cZ qm mp mt ml mc mf me mg mh mu (cd) (nI k) (nI n) (nI (pn)) (nI (nx)) (ep) (nI (M.1)) (M.2.2.1) (M.2.2.2) (wi) (jb) (fp) (tf) (tt) (fi) (ln) (bx) (1000) (pr) (1000) (tk) (8) (le) (576) (co) (576) (fr) (10) (em) (192) (M.2.1) (10) (nb) (10) (su)) → va_S A s.heap H locs → W p l e ({ frames := 0, cells := 0, slots := 0, locals := 0 }) s m ([.ref qm] : List Value).toArray below meth c H locs 0 0 (MQ below (sd_qi D (nI (sm_e em n)) (mW cI cZ qm mp mt ml mc mf me mg mh mu (cd) (nI k) (nI n) (nI (pn)) (nI (nx)) (ep) (nI (M.1)) (M.2.2.1) (M.2.2.2) (wi) (jb) (fp) (tf) (tt) (fi) (ln) (bx) (1000) (pr) (1000) (tk) (8) (le) (576) (co) (576) (fr) (10) (em) (192) (M.2.1) (10) (nb) (10) (su)) A) ([.ref qm] : List Value).toArray s 0 0 A) (F0 m 4 ls []) := by
    intro d
    induction d using Nat.strongRecOn with
    | _ d ih4 =>
    intro b ls H locs hd hb8 hl hP hD hS
    subst hd
    refine lv_iload_n hx hb d_M_filled_4 rfl (lv_at hl 2 rfl) ?_
    refine lv_aload_n hx hb d_M_filled_5 rfl (lv_at hl 0 rfl) ?_
    refine va_get (D := D) (ci := 5) (v := .int (nI n)) (C := R_M) (T := F_M) (N := 26) hx hb hts wl_M hown hK hP 0 rfl rfl 2 (by decide) (hts _ wf_M_45) (fun _ h9 => h9) rfl d_M_filled_6 ?_
    refine lv_icmp_gt (tgt := 35) hx hb d_M_filled_9 rfl (fun hc9 => ?_) (fun hc9 => ?_)
    · skip
      rw [nI_ltI (by omega) (by omega)] at hc9
      refine lv_iload_n hx hb d_M_filled_35 rfl (lv_at hl 1 rfl) ?_
      have hb8 : n = b := by omega
      subst hb8
      exact sd_iret hx hb hr hlk hP hS (Nat.le_of_ble_eq_true rfl) (Nat.le_of_ble_eq_true rfl) (rfl) d_M_filled_36
    · skip
      rw [nI_ltI (by omega) (by omega)] at hc9
      refine lv_aload_n hx hb d_M_filled_12 rfl (lv_at hl 0 rfl) ?_
      refine va_get (D := D) (ci := 5) (v := .ref me) (C := R_M) (T := F_M) (N := 26) hx hb hts wl_M hown hK hP 0 rfl rfl 11 (by decide) (hts _ wf_M_25) (fun _ h9 => h9) rfl d_M_filled_13 ?_
      refine lv_iload_n hx hb d_M_filled_16 rfl (lv_at hl 2 rfl) ?_
      refine sd_zald (j := b + 1) hx hb hK hP 6 1 rfl rfl (by omega) (by omega) d_M_filled_17 ?_
      refine lv_if_eq (tgt := 25) hx hb d_M_filled_18 rfl (fun hc18 => ?_) (fun hc18 => ?_)
      · skip
        refine lv_iload_n hx hb d_M_filled_25 rfl (lv_at hl 1 rfl) ?_
        refine lv_iconst (v := 1) hx hb d_M_filled_26 (by decide) ?_
        refine lv_iadd hx hb d_M_filled_27 ?_
        refine sd_top (y := nI (sm_e em (b + 1))) (by rw [nI_1, sm_e0 hc18]) ?_
        refine lv_istore_n hx hb d_M_filled_28 rfl hl (Nat.le_of_ble_eq_true rfl) (lv' := [(1, .int (nI (sm_e em (b + 1)))), (0, .ref qm), (2, .int (nI (b + 1)))]) rfl (fun ls hl => ?_)
        refine lv_iinc hx hb d_M_filled_29 hl (k := 2) rfl (v := nI (b + 1 + 1)) (ii_1 _) (Nat.le_of_ble_eq_true rfl) (lv' := [(2, .int (nI (b + 1 + 1))), (1, .int (nI (sm_e em (b + 1)))), (0, .ref qm)]) rfl (fun ls hl => ?_)
        refine lv_goto (tgt := 4) hx hb d_M_filled_32 rfl ?_
        have hl := lv_sub hl (l' := [(0, .ref qm), (1, .int (nI (sm_e em (b + 1)))), (2, .int (nI (b + 1 + 1)))]) [2, 1, 0] rfl
        exact ih4 _ (by omega) (b + 1) ls _ _ rfl (by omega) hl hP hD hS
      · skip
        refine lv_iload_n hx hb d_M_filled_21 rfl (lv_at hl 1 rfl) ?_
        refine sd_top (y := nI (sm_e em (b + 1))) (by rw [sm_e1 hc18]) ?_
        refine lv_goto (tgt := 28) hx hb d_M_filled_22 rfl ?_
        refine lv_istore_n hx hb d_M_filled_28 rfl hl (Nat.le_of_ble_eq_true rfl) (lv' := [(1, .int (nI (sm_e em (b + 1)))), (0, .ref qm), (2, .int (nI (b + 1)))]) rfl (fun ls hl => ?_)
        refine lv_iinc hx hb d_M_filled_29 hl (k := 2) rfl (v := nI (b + 1 + 1)) (ii_1 _) (Nat.le_of_ble_eq_true rfl) (lv' := [(2, .int (nI (b + 1 + 1))), (1, .int (nI (sm_e em (b + 1)))), (0, .ref qm)]) rfl (fun ls hl => ?_)
        refine lv_goto (tgt := 4) hx hb d_M_filled_32 rfl ?_
        have hl := lv_sub hl (l' := [(0, .ref qm), (1, .int (nI (sm_e em (b + 1)))), (2, .int (nI (b + 1 + 1)))]) [2, 1, 0] rfl
        exact ih4 _ (by omega) (b + 1) ls _ _ rfl (by omega) hl hP hD hS
  exact loop4 _ (0) ls _ _ rfl (Nat.zero_le _) hl hP hD hS
set_option maxHeartbeats 4000000 in
set_option maxRecDepth 100000 in
theorem c_M_nextTaken (l : Launch) (D : va_G) (cI cZ cQ : ClassId) (qm : Nat) (mp : Nat) (mt : Nat) (ml : Nat) (mc : Nat) (mf : Nat) (me : Nat) (mg : Nat) (mh : Nat) (mu : Nat) (k : Nat) (n : Nat) (pn : Nat) (nx : Nat) (cd : Int32) (ep : Int32) (M : mm_T) (wi : Int32) (jb : Int32) (fp : Int32) (tf : Int32) (tt : Int32) (fi : Int32) (ln : Int32) (bx : Int32) (pr : Nat → Int32) (tk : Nat → Int32) (le : Nat → Int32) (co : Nat → Int32) (fr : Nat → Int32) (em : Nat → Int32) (nb : Nat → Int32) (su : Nat → Int32) (hk : k ≤ 9) (hn : n ≤ 9) (hx9 : nx < 1000) : sd_I l D (tyL cI cZ cQ) y_M_nextTaken b_M_nextTaken 1 (.int) ({ frames := 0, cells := 0, slots := 0, locals := 0 }) [.ref qm] (mW cI cZ qm mp mt ml mc mf me mg mh mu (cd) (nI k) (nI n) (nI (pn)) (nI (nx)) (ep) (nI (M.1)) (M.2.2.1) (M.2.2.2) (wi) (jb) (fp) (tf) (tt) (fi) (ln) (bx) (1000) (pr) (1000) (tk) (8) (le) (576) (co) (576) (fr) (10) (em) (192) (M.2.1) (10) (nb) (10) (su)) (tk nx) (mW cI cZ qm mp mt ml mc mf me mg mh mu (cd) (nI k) (nI n) (nI (pn)) (nI (nx + 1)) (ep) (nI (M.1)) (M.2.2.1) (M.2.2.2) (wi) (jb) (fp) (tf) (tt) (fi) (ln) (bx) (1000) (pr) (1000) (tk) (8) (le) (576) (co) (576) (fr) (10) (em) (192) (M.2.1) (10) (nb) (10) (su)) := by
  refine sd_ofI (by decide) (Nat.le_of_ble_eq_true rfl) ?_
  intro p e s m below meth c A ls hx hb hr hml hlk hown hts hK hP hD hA hS hl
  have hl : lv_has ls 1 [(0, .ref qm)] := hl
  refine lv_aload_n hx hb d_M_nextTaken_0 rfl (lv_at hl 0 rfl) ?_
  refine lv_dup hx hb d_M_nextTaken_1 rfl ?_
  refine va_get (D := D) (ci := 5) (v := .int (nI (nx))) (C := R_M) (T := F_M) (N := 26) hx hb hts wl_M hown hK hP 0 rfl rfl 6 (by decide) (hts _ wf_M_63) (fun _ h9 => h9) rfl d_M_nextTaken_2 ?_
  refine lv_iconst (v := 1) hx hb d_M_nextTaken_5 (by decide) ?_
  refine lv_iadd hx hb d_M_nextTaken_6 ?_
  refine sd_top (y := nI (nx + 1)) (nI_1 _) ?_
  refine va_put (D := D) (ci := 5) (v := .int (nI (nx + 1))) (ty := .int) (C := R_M) (T := F_M) (N := 26) hx hb hts wl_M t_M t_M_ok n_M hown hK hP hD hS 0 rfl rfl 6 (by decide) (hts _ wf_M_63) (fun _ h9 => h9) rfl (by decide +kernel) rfl rfl (Nat.le_of_ble_eq_true rfl) d_M_nextTaken_7 (fun H locs hP hD hS => ?_)
  have hP : va_P D cls (mW cI cZ qm mp mt ml mc mf me mg mh mu (cd) (nI k) (nI n) (nI (pn)) (nI (nx + 1)) (ep) (nI (M.1)) (M.2.2.1) (M.2.2.2) (wi) (jb) (fp) (tf) (tt) (fi) (ln) (bx) (1000) (pr) (1000) (tk) (8) (le) (576) (co) (576) (fr) (10) (em) (192) (M.2.1) (10) (nb) (10) (su)) H := hP
  have hD : va_D A (mW cI cZ qm mp mt ml mc mf me mg mh mu (cd) (nI k) (nI n) (nI (pn)) (nI (nx + 1)) (ep) (nI (M.1)) (M.2.2.1) (M.2.2.2) (wi) (jb) (fp) (tf) (tt) (fi) (ln) (bx) (1000) (pr) (1000) (tk) (8) (le) (576) (co) (576) (fr) (10) (em) (192) (M.2.1) (10) (nb) (10) (su)) := hD
  refine lv_aload_n hx hb d_M_nextTaken_10 rfl (lv_at hl 0 rfl) ?_
  refine va_get (D := D) (ci := 5) (v := .ref mt) (C := R_M) (T := F_M) (N := 26) hx hb hts wl_M hown hK hP 0 rfl rfl 5 (by decide) (hts _ wf_M_13) (fun _ h9 => h9) rfl d_M_nextTaken_11 ?_
  refine lv_aload_n hx hb d_M_nextTaken_14 rfl (lv_at hl 0 rfl) ?_
  refine va_get (D := D) (ci := 5) (v := .int (nI (nx + 1))) (C := R_M) (T := F_M) (N := 26) hx hb hts wl_M hown hK hP 0 rfl rfl 6 (by decide) (hts _ wf_M_63) (fun _ h9 => h9) rfl d_M_nextTaken_15 ?_
  refine lv_iconst (v := 1) hx hb d_M_nextTaken_18 (by decide) ?_
  refine lv_isub hx hb d_M_nextTaken_19 ?_
  refine sd_top (y := nI (nx)) (nI_pred nx) ?_
  refine sd_iald (j := nx) hx hb hK hP 2 0 rfl rfl (by omega) (by omega) d_M_nextTaken_20 ?_
  exact sd_iret hx hb hr hlk hP hS (Nat.le_of_ble_eq_true rfl) (Nat.le_of_ble_eq_true rfl) (rfl) d_M_nextTaken_21
set_option maxHeartbeats 4000000 in
set_option maxRecDepth 100000 in
theorem c_M_copyFresh (l : Launch) (D : va_G) (cI cZ cQ : ClassId) (qm : Nat) (mp : Nat) (mt : Nat) (ml : Nat) (mc : Nat) (mf : Nat) (me : Nat) (mg : Nat) (mh : Nat) (mu : Nat) (k : Nat) (n : Nat) (pn : Nat) (nx : Nat) (cd : Int32) (ep : Int32) (M : mm_T) (wi : Int32) (jb : Int32) (fp : Int32) (tf : Int32) (tt : Int32) (fi : Int32) (ln : Int32) (bx : Int32) (pr : Nat → Int32) (tk : Nat → Int32) (le : Nat → Int32) (co : Nat → Int32) (fr : Nat → Int32) (em : Nat → Int32) (nb : Nat → Int32) (su : Nat → Int32) (hk : k ≤ 9) (hn : n ≤ 9) : sd_V l D (tyL cI cZ cQ) y_M_copyFresh b_M_copyFresh 2 ({ frames := 0, cells := 0, slots := 0, locals := 0 }) [.ref qm] (mW cI cZ qm mp mt ml mc mf me mg mh mu (cd) (nI k) (nI n) (nI (pn)) (nI (nx)) (ep) (nI (M.1)) (M.2.2.1) (M.2.2.2) (wi) (jb) (fp) (tf) (tt) (fi) (ln) (bx) (1000) (pr) (1000) (tk) (8) (le) (576) (co) (576) (fr) (10) (em) (192) (M.2.1) (10) (nb) (10) (su)) (mW cI cZ qm mp mt ml mc mf me mg mh mu (cd) (nI k) (nI n) (nI (pn)) (nI (nx)) (ep) (nI (M.1)) (M.2.2.1) (M.2.2.2) (wi) (jb) (fp) (tf) (tt) (fi) (ln) (bx) (1000) (pr) (1000) (tk) (8) (le) (576) (co) (576) (cp_f co 576 fr) (10) (em) (192) (M.2.1) (10) (nb) (10) (su)) := by
  refine sd_ofV (by decide) (Nat.le_of_ble_eq_true rfl) ?_
  intro p e s m below meth c A ls hx hb hr hml hlk hown hts hK hP hD hA hS hl
  have hl : lv_has ls 2 [(0, .ref qm)] := hl
  refine lv_iconst (v := 0) hx hb d_M_copyFresh_0 (by decide) ?_
  refine sd_top (y := nI 0) (rfl) ?_
  refine lv_istore_n hx hb d_M_copyFresh_1 rfl hl (Nat.le_of_ble_eq_true rfl) (lv' := [(1, .int (nI 0)), (0, .ref qm)]) rfl (fun ls hl => ?_)
  have hl := lv_sub hl (l' := [(0, .ref qm), (1, .int (nI 0))]) [1, 0] rfl
  have loop2 : ∀ (d : Nat) (j : Nat) (ls : Array Slot) (H : Heap) (locs : List Loc), 576 - j = d → (j ≤ 576) → lv_has ls 2 [(0, .ref qm), (1, .int (nI (j)))] → va_P D cls (mW cI cZ qm mp mt ml mc mf me mg mh mu (cd) (nI k) (nI n) (nI (pn)) (nI (nx)) (ep) (nI (M.1)) (M.2.2.1) (M.2.2.2) (wi) (jb) (fp) (tf) (tt) (fi) (ln) (bx) (1000) (pr) (1000) (tk) (8) (le) (576) (co) (576) (cp_f co j fr) (10) (em) (192) (M.2.1) (10) (nb) (10) (su)) H → va_D A (mW cI cZ qm mp mt ml mc mf me mg mh mu (cd) (nI k) (nI n) (nI (pn)) (nI (nx)) (ep) (nI (M.1)) (M.2.2.1) (M.2.2.2) (wi) (jb) (fp) (tf) (tt) (fi) (ln) (bx) (1000) (pr) (1000) (tk) (8) (le) (576) (co) (576) (cp_f co j fr) (10) (em) (192) (M.2.1) (10) (nb) (10) (su)) → va_S A s.heap H locs → W p l e ({ frames := 0, cells := 0, slots := 0, locals := 0 }) s m ([.ref qm] : List Value).toArray below meth c H locs 0 0 (MQ below (sd_qv D (mW cI cZ qm mp mt ml mc mf me mg mh mu (cd) (nI k) (nI n) (nI (pn)) (nI (nx)) (ep) (nI (M.1)) (M.2.2.1) (M.2.2.2) (wi) (jb) (fp) (tf) (tt) (fi) (ln) (bx) (1000) (pr) (1000) (tk) (8) (le) (576) (co) (576) (cp_f co 576 fr) (10) (em) (192) (M.2.1) (10) (nb) (10) (su)) A) ([.ref qm] : List Value).toArray s 0 0 A) (F0 m 2 ls []) := by
    intro d
    induction d using Nat.strongRecOn with
    | _ d ih2 =>
    intro j ls H locs hd hj hl hP hD hS
    subst hd
    refine lv_iload_n hx hb d_M_copyFresh_2 rfl (lv_at hl 1 rfl) ?_
    refine lv_sipush (v := nI 576) hx hb d_M_copyFresh_3 (by decide) ?_
    refine lv_icmp_ge (tgt := 27) hx hb d_M_copyFresh_6 rfl (fun hc6 => ?_) (fun hc6 => ?_)
    · skip
      rw [nI_leI (by omega) (by omega)] at hc6
      have hj8 : 576 = j := by omega
      subst hj8
      exact sd_vret hx hb hr hlk hP hS (Nat.le_of_ble_eq_true rfl) (Nat.le_of_ble_eq_true rfl) d_M_copyFresh_27
    · skip
      rw [nI_leI (by omega) (by omega)] at hc6
      refine lv_aload_n hx hb d_M_copyFresh_9 rfl (lv_at hl 0 rfl) ?_
      refine va_get (D := D) (ci := 5) (v := .ref mf) (C := R_M) (T := F_M) (N := 26) hx hb hts wl_M hown hK hP 0 rfl rfl 9 (by decide) (hts _ wf_M_22) (fun _ h9 => h9) rfl d_M_copyFresh_10 ?_
      refine lv_iload_n hx hb d_M_copyFresh_13 rfl (lv_at hl 1 rfl) ?_
      refine lv_aload_n hx hb d_M_copyFresh_14 rfl (lv_at hl 0 rfl) ?_
      refine va_get (D := D) (ci := 5) (v := .ref mc) (C := R_M) (T := F_M) (N := 26) hx hb hts wl_M hown hK hP 0 rfl rfl 8 (by decide) (hts _ wf_M_19) (fun _ h9 => h9) rfl d_M_copyFresh_15 ?_
      refine lv_iload_n hx hb d_M_copyFresh_18 rfl (lv_at hl 1 rfl) ?_
      refine sd_iald (j := j) hx hb hK hP 4 0 rfl rfl (by omega) (by omega) d_M_copyFresh_19 ?_
      refine sd_iast (j := j) hx hb hK hP hD hS 5 0 rfl rfl (by omega) (by omega) d_M_copyFresh_20 (fun H locs hP hD hS => ?_)
      have hP : va_P D cls (mW cI cZ qm mp mt ml mc mf me mg mh mu (cd) (nI k) (nI n) (nI (pn)) (nI (nx)) (ep) (nI (M.1)) (M.2.2.1) (M.2.2.2) (wi) (jb) (fp) (tf) (tt) (fi) (ln) (bx) (1000) (pr) (1000) (tk) (8) (le) (576) (co) (576) (upd (cp_f co j fr) (j) (co (j))) (10) (em) (192) (M.2.1) (10) (nb) (10) (su)) H := hP
      have hD : va_D A (mW cI cZ qm mp mt ml mc mf me mg mh mu (cd) (nI k) (nI n) (nI (pn)) (nI (nx)) (ep) (nI (M.1)) (M.2.2.1) (M.2.2.2) (wi) (jb) (fp) (tf) (tt) (fi) (ln) (bx) (1000) (pr) (1000) (tk) (8) (le) (576) (co) (576) (upd (cp_f co j fr) (j) (co (j))) (10) (em) (192) (M.2.1) (10) (nb) (10) (su)) := hD
      refine lv_iinc hx hb d_M_copyFresh_21 hl (k := 1) rfl (v := nI (j + 1)) (ii_1 _) (Nat.le_of_ble_eq_true rfl) (lv' := [(1, .int (nI (j + 1))), (0, .ref qm)]) rfl (fun ls hl => ?_)
      refine lv_goto (tgt := 2) hx hb d_M_copyFresh_24 rfl ?_
      have hl := lv_sub hl (l' := [(0, .ref qm), (1, .int (nI (j + 1)))]) [1, 0] rfl
      exact ih2 _ (by omega) (j + 1) ls _ _ rfl (by omega) hl hP hD hS
  exact loop2 _ (0) ls _ _ rfl (by omega) hl hP hD hS
set_option maxHeartbeats 4000000 in
set_option maxRecDepth 100000 in
theorem c_M_send (l : Launch) (D : va_G) (cI cZ cQ : ClassId) (qm : Nat) (mp : Nat) (mt : Nat) (ml : Nat) (mc : Nat) (mf : Nat) (me : Nat) (mg : Nat) (mh : Nat) (mu : Nat) (k : Nat) (n : Nat) (pn : Nat) (nx : Nat) (cd : Int32) (ep : Int32) (M : mm_T) (wi : Int32) (jb : Int32) (fp : Int32) (tf : Int32) (tt : Int32) (fi : Int32) (ln : Int32) (bx : Int32) (pr : Nat → Int32) (tk : Nat → Int32) (le : Nat → Int32) (co : Nat → Int32) (fr : Nat → Int32) (em : Nat → Int32) (nb : Nat → Int32) (su : Nat → Int32) (a : Int32) (b : Int32) (x : Int32) (hk : k ≤ 9) (hn : n ≤ 9) (hT : M.1 < 2 ^ 31) : sd_V l D (tyL cI cZ cQ) y_M_send b_M_send 5 ({ frames := 0, cells := 0, slots := 0, locals := 0 }) [.ref qm, .int (a), .int (b), .int (x)] (mW cI cZ qm mp mt ml mc mf me mg mh mu (cd) (nI k) (nI n) (nI (pn)) (nI (nx)) (ep) (nI (M.1)) (M.2.2.1) (M.2.2.2) (wi) (jb) (fp) (tf) (tt) (fi) (ln) (bx) (1000) (pr) (1000) (tk) (8) (le) (576) (co) (576) (fr) (10) (em) (192) (M.2.1) (10) (nb) (10) (su)) (mW cI cZ qm mp mt ml mc mf me mg mh mu (cd) (nI k) (nI n) (nI (pn)) (nI (nx)) (ep) (nI ((mm_s M a b x).1)) ((mm_s M a b x).2.2.1) ((mm_s M a b x).2.2.2) (wi) (jb) (fp) (tf) (tt) (fi) (ln) (bx) (1000) (pr) (1000) (tk) (8) (le) (576) (co) (576) (fr) (10) (em) (192) ((mm_s M a b x).2.1) (10) (nb) (10) (su)) := by
  refine sd_ofV (by decide) (Nat.le_of_ble_eq_true rfl) ?_
  intro p e s m below meth c A ls hx hb hr hml hlk hown hts hK hP hD hA hS hl
  have hl : lv_has ls 5 [(0, .ref qm), (1, .int (a)), (2, .int (b)), (3, .int (x))] := hl
  have h64 : M.1 % 64 < 64 := Nat.mod_lt _ (by omega)
  refine lv_aload_n hx hb d_M_send_0 rfl (lv_at hl 0 rfl) ?_
  refine lv_aload_n hx hb d_M_send_1 rfl (lv_at hl 0 rfl) ?_
  refine va_get (D := D) (ci := 5) (v := .int (M.2.2.2)) (C := R_M) (T := F_M) (N := 26) hx hb hts wl_M hown hK hP 0 rfl rfl 15 (by decide) (hts _ wf_M_66) (fun _ h9 => h9) rfl d_M_send_2 ?_
  refine lv_if_ne (tgt := 15) hx hb d_M_send_5 rfl (fun hc5 => ?_) (fun hc5 => ?_)
  · skip
    refine lv_iconst (v := 1) hx hb d_M_send_15 (by decide) ?_
    refine lv_goto (tgt := 20) hx hb d_M_send_16 rfl ?_
    refine va_put (D := D) (ci := 5) (v := .int (1)) (ty := .boolean) (C := R_M) (T := F_M) (N := 26) hx hb hts wl_M t_M t_M_ok n_M hown hK hP hD hS 0 rfl rfl 15 (by decide) (hts _ wf_M_66) (fun _ h9 => h9) rfl (by decide +kernel) rfl rfl (Nat.le_of_ble_eq_true rfl) d_M_send_20 (fun H locs hP hD hS => ?_)
    have hP : va_P D cls (mW cI cZ qm mp mt ml mc mf me mg mh mu (cd) (nI k) (nI n) (nI (pn)) (nI (nx)) (ep) (nI (M.1)) (M.2.2.1) (1) (wi) (jb) (fp) (tf) (tt) (fi) (ln) (bx) (1000) (pr) (1000) (tk) (8) (le) (576) (co) (576) (fr) (10) (em) (192) (M.2.1) (10) (nb) (10) (su)) H := hP
    have hD : va_D A (mW cI cZ qm mp mt ml mc mf me mg mh mu (cd) (nI k) (nI n) (nI (pn)) (nI (nx)) (ep) (nI (M.1)) (M.2.2.1) (1) (wi) (jb) (fp) (tf) (tt) (fi) (ln) (bx) (1000) (pr) (1000) (tk) (8) (le) (576) (co) (576) (fr) (10) (em) (192) (M.2.1) (10) (nb) (10) (su)) := hD
    refine lv_aload_n hx hb d_M_send_23 rfl (lv_at hl 0 rfl) ?_
    refine va_get (D := D) (ci := 5) (v := .int (1)) (C := R_M) (T := F_M) (N := 26) hx hb hts wl_M hown hK hP 0 rfl rfl 15 (by decide) (hts _ wf_M_66) (fun _ h9 => h9) rfl d_M_send_24 ?_
    refine lv_if_eq (tgt := 31) hx hb d_M_send_27 rfl (fun hc27 => ?_) (fun hc27 => ?_)
    · skip
      exact False.elim (by revert hc27; decide)
    · skip
      have hP : va_P D cls (mW cI cZ qm mp mt ml mc mf me mg mh mu (cd) (nI k) (nI n) (nI (pn)) (nI (nx)) (ep) (nI ((mm_s M a b x).1)) ((mm_s M a b x).2.2.1) ((mm_s M a b x).2.2.2) (wi) (jb) (fp) (tf) (tt) (fi) (ln) (bx) (1000) (pr) (1000) (tk) (8) (le) (576) (co) (576) (fr) (10) (em) (192) ((mm_s M a b x).2.1) (10) (nb) (10) (su)) H := by rw [mm_n (by first | exact fun h => hc5 h.1 | exact fun h => h.2 hc12)]; exact hP
      exact sd_vret hx hb hr hlk hP hS (Nat.le_of_ble_eq_true rfl) (Nat.le_of_ble_eq_true rfl) d_M_send_30
  · skip
    have hc5 : M.2.2.2 = 0 := hc5
    refine lv_aload_n hx hb d_M_send_8 rfl (lv_at hl 0 rfl) ?_
    refine va_get (D := D) (ci := 5) (v := .int (M.2.2.1)) (C := R_M) (T := F_M) (N := 26) hx hb hts wl_M hown hK hP 0 rfl rfl 14 (by decide) (hts _ wf_M_32) (fun _ h9 => h9) rfl d_M_send_9 ?_
    refine lv_if_ne (tgt := 19) hx hb d_M_send_12 rfl (fun hc12 => ?_) (fun hc12 => ?_)
    · skip
      refine lv_iconst (v := 0) hx hb d_M_send_19 (by decide) ?_
      refine va_put (D := D) (ci := 5) (v := .int (0)) (ty := .boolean) (C := R_M) (T := F_M) (N := 26) hx hb hts wl_M t_M t_M_ok n_M hown hK hP hD hS 0 rfl rfl 15 (by decide) (hts _ wf_M_66) (fun _ h9 => h9) rfl (by decide +kernel) rfl rfl (Nat.le_of_ble_eq_true rfl) d_M_send_20 (fun H locs hP hD hS => ?_)
      have hP : va_P D cls (mW cI cZ qm mp mt ml mc mf me mg mh mu (cd) (nI k) (nI n) (nI (pn)) (nI (nx)) (ep) (nI (M.1)) (M.2.2.1) (0) (wi) (jb) (fp) (tf) (tt) (fi) (ln) (bx) (1000) (pr) (1000) (tk) (8) (le) (576) (co) (576) (fr) (10) (em) (192) (M.2.1) (10) (nb) (10) (su)) H := hP
      have hD : va_D A (mW cI cZ qm mp mt ml mc mf me mg mh mu (cd) (nI k) (nI n) (nI (pn)) (nI (nx)) (ep) (nI (M.1)) (M.2.2.1) (0) (wi) (jb) (fp) (tf) (tt) (fi) (ln) (bx) (1000) (pr) (1000) (tk) (8) (le) (576) (co) (576) (fr) (10) (em) (192) (M.2.1) (10) (nb) (10) (su)) := hD
      refine lv_aload_n hx hb d_M_send_23 rfl (lv_at hl 0 rfl) ?_
      refine va_get (D := D) (ci := 5) (v := .int (0)) (C := R_M) (T := F_M) (N := 26) hx hb hts wl_M hown hK hP 0 rfl rfl 15 (by decide) (hts _ wf_M_66) (fun _ h9 => h9) rfl d_M_send_24 ?_
      refine lv_if_eq (tgt := 31) hx hb d_M_send_27 rfl (fun hc27 => ?_) (fun hc27 => ?_)
      · skip
        refine lv_aload_n hx hb d_M_send_31 rfl (lv_at hl 0 rfl) ?_
        refine lv_aload_n hx hb d_M_send_32 rfl (lv_at hl 0 rfl) ?_
        refine va_get (D := D) (ci := 5) (v := .int (M.2.2.1)) (C := R_M) (T := F_M) (N := 26) hx hb hts wl_M hown hK hP 0 rfl rfl 14 (by decide) (hts _ wf_M_32) (fun _ h9 => h9) rfl d_M_send_33 ?_
        refine lv_if_le (tgt := 48) hx hb d_M_send_36 rfl (fun hc36 => ?_) (fun hc36 => ?_)
        · skip
          refine lv_aload_n hx hb d_M_send_48 rfl (lv_at hl 0 rfl) ?_
          refine va_get (D := D) (ci := 5) (v := .int (M.2.2.1)) (C := R_M) (T := F_M) (N := 26) hx hb hts wl_M hown hK hP 0 rfl rfl 14 (by decide) (hts _ wf_M_32) (fun _ h9 => h9) rfl d_M_send_49 ?_
          refine va_put (D := D) (ci := 5) (v := .int (M.2.2.1)) (ty := .int) (C := R_M) (T := F_M) (N := 26) hx hb hts wl_M t_M t_M_ok n_M hown hK hP hD hS 0 rfl rfl 14 (by decide) (hts _ wf_M_32) (fun _ h9 => h9) rfl (by decide +kernel) rfl rfl (Nat.le_of_ble_eq_true rfl) d_M_send_52 (fun H locs hP hD hS => ?_)
          have hP : va_P D cls (mW cI cZ qm mp mt ml mc mf me mg mh mu (cd) (nI k) (nI n) (nI (pn)) (nI (nx)) (ep) (nI (M.1)) (M.2.2.1) (0) (wi) (jb) (fp) (tf) (tt) (fi) (ln) (bx) (1000) (pr) (1000) (tk) (8) (le) (576) (co) (576) (fr) (10) (em) (192) (M.2.1) (10) (nb) (10) (su)) H := hP
          have hD : va_D A (mW cI cZ qm mp mt ml mc mf me mg mh mu (cd) (nI k) (nI n) (nI (pn)) (nI (nx)) (ep) (nI (M.1)) (M.2.2.1) (0) (wi) (jb) (fp) (tf) (tt) (fi) (ln) (bx) (1000) (pr) (1000) (tk) (8) (le) (576) (co) (576) (fr) (10) (em) (192) (M.2.1) (10) (nb) (10) (su)) := hD
          refine lv_aload_n hx hb d_M_send_55 rfl (lv_at hl 0 rfl) ?_
          refine va_get (D := D) (ci := 5) (v := .int (nI (M.1))) (C := R_M) (T := F_M) (N := 26) hx hb hts wl_M hown hK hP 0 rfl rfl 12 (by decide) (hts _ wf_M_70) (fun _ h9 => h9) rfl d_M_send_56 ?_
          refine lv_bipush (v := nI 64) hx hb d_M_send_59 (by decide) ?_
          refine lv_irem hx hb d_M_send_61 (by decide) ?_
          refine sd_top (y := nI (M.1 % 64)) (pk_rem (by omega) (by omega) (by omega)) ?_
          refine lv_iconst (v := nI 3) hx hb d_M_send_62 (by decide) ?_
          refine lv_imul hx hb d_M_send_63 ?_
          refine sd_top (y := nI (M.1 % 64 * 3)) (pk_mul _ _) ?_
          refine lv_istore hx hb d_M_send_64 hl (Nat.le_of_ble_eq_true rfl) (lv' := [(4, .int (nI (M.1 % 64 * 3))), (0, .ref qm), (1, .int (a)), (2, .int (b)), (3, .int (x))]) rfl (fun ls hl => ?_)
          refine lv_aload_n hx hb d_M_send_66 rfl (lv_at hl 1 rfl) ?_
          refine va_get (D := D) (ci := 5) (v := .ref mg) (C := R_M) (T := F_M) (N := 26) hx hb hts wl_M hown hK hP 0 rfl rfl 13 (by decide) (hts _ wf_M_29) (fun _ h9 => h9) rfl d_M_send_67 ?_
          refine lv_iload hx hb d_M_send_70 (lv_at hl 0 rfl) ?_
          refine lv_iload_n hx hb d_M_send_72 rfl (lv_at hl 2 rfl) ?_
          refine sd_iast (j := M.1 % 64 * 3) hx hb hK hP hD hS 7 0 rfl rfl (by omega) (by omega) d_M_send_73 (fun H locs hP hD hS => ?_)
          have hP : va_P D cls (mW cI cZ qm mp mt ml mc mf me mg mh mu (cd) (nI k) (nI n) (nI (pn)) (nI (nx)) (ep) (nI (M.1)) (M.2.2.1) (0) (wi) (jb) (fp) (tf) (tt) (fi) (ln) (bx) (1000) (pr) (1000) (tk) (8) (le) (576) (co) (576) (fr) (10) (em) (192) (upd (M.2.1) (M.1 % 64 * 3) (a)) (10) (nb) (10) (su)) H := hP
          have hD : va_D A (mW cI cZ qm mp mt ml mc mf me mg mh mu (cd) (nI k) (nI n) (nI (pn)) (nI (nx)) (ep) (nI (M.1)) (M.2.2.1) (0) (wi) (jb) (fp) (tf) (tt) (fi) (ln) (bx) (1000) (pr) (1000) (tk) (8) (le) (576) (co) (576) (fr) (10) (em) (192) (upd (M.2.1) (M.1 % 64 * 3) (a)) (10) (nb) (10) (su)) := hD
          refine lv_aload_n hx hb d_M_send_74 rfl (lv_at hl 1 rfl) ?_
          refine va_get (D := D) (ci := 5) (v := .ref mg) (C := R_M) (T := F_M) (N := 26) hx hb hts wl_M hown hK hP 0 rfl rfl 13 (by decide) (hts _ wf_M_29) (fun _ h9 => h9) rfl d_M_send_75 ?_
          refine lv_iload hx hb d_M_send_78 (lv_at hl 0 rfl) ?_
          refine lv_iconst (v := nI 1) hx hb d_M_send_80 (by decide) ?_
          refine lv_iadd hx hb d_M_send_81 ?_
          refine sd_top (y := nI (M.1 % 64 * 3 + 1)) (nI_add _ _) ?_
          refine lv_iload_n hx hb d_M_send_82 rfl (lv_at hl 3 rfl) ?_
          refine sd_iast (j := M.1 % 64 * 3 + 1) hx hb hK hP hD hS 7 0 rfl rfl (by omega) (by omega) d_M_send_83 (fun H locs hP hD hS => ?_)
          have hP : va_P D cls (mW cI cZ qm mp mt ml mc mf me mg mh mu (cd) (nI k) (nI n) (nI (pn)) (nI (nx)) (ep) (nI (M.1)) (M.2.2.1) (0) (wi) (jb) (fp) (tf) (tt) (fi) (ln) (bx) (1000) (pr) (1000) (tk) (8) (le) (576) (co) (576) (fr) (10) (em) (192) (upd (upd (M.2.1) (M.1 % 64 * 3) (a)) (M.1 % 64 * 3 + 1) (b)) (10) (nb) (10) (su)) H := hP
          have hD : va_D A (mW cI cZ qm mp mt ml mc mf me mg mh mu (cd) (nI k) (nI n) (nI (pn)) (nI (nx)) (ep) (nI (M.1)) (M.2.2.1) (0) (wi) (jb) (fp) (tf) (tt) (fi) (ln) (bx) (1000) (pr) (1000) (tk) (8) (le) (576) (co) (576) (fr) (10) (em) (192) (upd (upd (M.2.1) (M.1 % 64 * 3) (a)) (M.1 % 64 * 3 + 1) (b)) (10) (nb) (10) (su)) := hD
          refine lv_aload_n hx hb d_M_send_84 rfl (lv_at hl 1 rfl) ?_
          refine va_get (D := D) (ci := 5) (v := .ref mg) (C := R_M) (T := F_M) (N := 26) hx hb hts wl_M hown hK hP 0 rfl rfl 13 (by decide) (hts _ wf_M_29) (fun _ h9 => h9) rfl d_M_send_85 ?_
          refine lv_iload hx hb d_M_send_88 (lv_at hl 0 rfl) ?_
          refine lv_iconst (v := nI 2) hx hb d_M_send_90 (by decide) ?_
          refine lv_iadd hx hb d_M_send_91 ?_
          refine sd_top (y := nI (M.1 % 64 * 3 + 2)) (nI_add _ _) ?_
          refine lv_iload_n hx hb d_M_send_92 rfl (lv_at hl 4 rfl) ?_
          refine sd_iast (j := M.1 % 64 * 3 + 2) hx hb hK hP hD hS 7 0 rfl rfl (by omega) (by omega) d_M_send_93 (fun H locs hP hD hS => ?_)
          have hP : va_P D cls (mW cI cZ qm mp mt ml mc mf me mg mh mu (cd) (nI k) (nI n) (nI (pn)) (nI (nx)) (ep) (nI (M.1)) (M.2.2.1) (0) (wi) (jb) (fp) (tf) (tt) (fi) (ln) (bx) (1000) (pr) (1000) (tk) (8) (le) (576) (co) (576) (fr) (10) (em) (192) (upd (upd (upd (M.2.1) (M.1 % 64 * 3) (a)) (M.1 % 64 * 3 + 1) (b)) (M.1 % 64 * 3 + 2) (x)) (10) (nb) (10) (su)) H := hP
          have hD : va_D A (mW cI cZ qm mp mt ml mc mf me mg mh mu (cd) (nI k) (nI n) (nI (pn)) (nI (nx)) (ep) (nI (M.1)) (M.2.2.1) (0) (wi) (jb) (fp) (tf) (tt) (fi) (ln) (bx) (1000) (pr) (1000) (tk) (8) (le) (576) (co) (576) (fr) (10) (em) (192) (upd (upd (upd (M.2.1) (M.1 % 64 * 3) (a)) (M.1 % 64 * 3 + 1) (b)) (M.1 % 64 * 3 + 2) (x)) (10) (nb) (10) (su)) := hD
          refine lv_aload_n hx hb d_M_send_94 rfl (lv_at hl 1 rfl) ?_
          refine lv_dup hx hb d_M_send_95 rfl ?_
          refine va_get (D := D) (ci := 5) (v := .int (nI (M.1))) (C := R_M) (T := F_M) (N := 26) hx hb hts wl_M hown hK hP 0 rfl rfl 12 (by decide) (hts _ wf_M_70) (fun _ h9 => h9) rfl d_M_send_96 ?_
          refine lv_iconst (v := 1) hx hb d_M_send_99 (by decide) ?_
          refine lv_iadd hx hb d_M_send_100 ?_
          refine sd_top (y := nI (M.1 + 1)) (nI_1 _) ?_
          refine va_put (D := D) (ci := 5) (v := .int (nI (M.1 + 1))) (ty := .int) (C := R_M) (T := F_M) (N := 26) hx hb hts wl_M t_M t_M_ok n_M hown hK hP hD hS 0 rfl rfl 12 (by decide) (hts _ wf_M_70) (fun _ h9 => h9) rfl (by decide +kernel) rfl rfl (Nat.le_of_ble_eq_true rfl) d_M_send_101 (fun H locs hP hD hS => ?_)
          have hP : va_P D cls (mW cI cZ qm mp mt ml mc mf me mg mh mu (cd) (nI k) (nI n) (nI (pn)) (nI (nx)) (ep) (nI (M.1 + 1)) (M.2.2.1) (0) (wi) (jb) (fp) (tf) (tt) (fi) (ln) (bx) (1000) (pr) (1000) (tk) (8) (le) (576) (co) (576) (fr) (10) (em) (192) (upd (upd (upd (M.2.1) (M.1 % 64 * 3) (a)) (M.1 % 64 * 3 + 1) (b)) (M.1 % 64 * 3 + 2) (x)) (10) (nb) (10) (su)) H := hP
          have hD : va_D A (mW cI cZ qm mp mt ml mc mf me mg mh mu (cd) (nI k) (nI n) (nI (pn)) (nI (nx)) (ep) (nI (M.1 + 1)) (M.2.2.1) (0) (wi) (jb) (fp) (tf) (tt) (fi) (ln) (bx) (1000) (pr) (1000) (tk) (8) (le) (576) (co) (576) (fr) (10) (em) (192) (upd (upd (upd (M.2.1) (M.1 % 64 * 3) (a)) (M.1 % 64 * 3 + 1) (b)) (M.1 % 64 * 3 + 2) (x)) (10) (nb) (10) (su)) := hD
          have hP : va_P D cls (mW cI cZ qm mp mt ml mc mf me mg mh mu (cd) (nI k) (nI n) (nI (pn)) (nI (nx)) (ep) (nI ((mm_s M a b x).1)) ((mm_s M a b x).2.2.1) ((mm_s M a b x).2.2.2) (wi) (jb) (fp) (tf) (tt) (fi) (ln) (bx) (1000) (pr) (1000) (tk) (8) (le) (576) (co) (576) (fr) (10) (em) (192) ((mm_s M a b x).2.1) (10) (nb) (10) (su)) H := by first | (rw [mm_y ⟨hc5, hc12⟩, if_pos hc36]; exact hP) | (rw [mm_y ⟨hc5, hc12⟩, if_neg hc36]; exact hP)
          exact sd_vret hx hb hr hlk hP hS (Nat.le_of_ble_eq_true rfl) (Nat.le_of_ble_eq_true rfl) d_M_send_104
        · skip
          refine lv_aload_n hx hb d_M_send_39 rfl (lv_at hl 0 rfl) ?_
          refine va_get (D := D) (ci := 5) (v := .int (M.2.2.1)) (C := R_M) (T := F_M) (N := 26) hx hb hts wl_M hown hK hP 0 rfl rfl 14 (by decide) (hts _ wf_M_32) (fun _ h9 => h9) rfl d_M_send_40 ?_
          refine lv_iconst (v := 1) hx hb d_M_send_43 (by decide) ?_
          refine lv_isub hx hb d_M_send_44 ?_
          refine lv_goto (tgt := 52) hx hb d_M_send_45 rfl ?_
          refine va_put (D := D) (ci := 5) (v := .int ((M.2.2.1) - (1))) (ty := .int) (C := R_M) (T := F_M) (N := 26) hx hb hts wl_M t_M t_M_ok n_M hown hK hP hD hS 0 rfl rfl 14 (by decide) (hts _ wf_M_32) (fun _ h9 => h9) rfl (by decide +kernel) rfl rfl (Nat.le_of_ble_eq_true rfl) d_M_send_52 (fun H locs hP hD hS => ?_)
          have hP : va_P D cls (mW cI cZ qm mp mt ml mc mf me mg mh mu (cd) (nI k) (nI n) (nI (pn)) (nI (nx)) (ep) (nI (M.1)) ((M.2.2.1) - (1)) (0) (wi) (jb) (fp) (tf) (tt) (fi) (ln) (bx) (1000) (pr) (1000) (tk) (8) (le) (576) (co) (576) (fr) (10) (em) (192) (M.2.1) (10) (nb) (10) (su)) H := hP
          have hD : va_D A (mW cI cZ qm mp mt ml mc mf me mg mh mu (cd) (nI k) (nI n) (nI (pn)) (nI (nx)) (ep) (nI (M.1)) ((M.2.2.1) - (1)) (0) (wi) (jb) (fp) (tf) (tt) (fi) (ln) (bx) (1000) (pr) (1000) (tk) (8) (le) (576) (co) (576) (fr) (10) (em) (192) (M.2.1) (10) (nb) (10) (su)) := hD
          refine lv_aload_n hx hb d_M_send_55 rfl (lv_at hl 0 rfl) ?_
          refine va_get (D := D) (ci := 5) (v := .int (nI (M.1))) (C := R_M) (T := F_M) (N := 26) hx hb hts wl_M hown hK hP 0 rfl rfl 12 (by decide) (hts _ wf_M_70) (fun _ h9 => h9) rfl d_M_send_56 ?_
          refine lv_bipush (v := nI 64) hx hb d_M_send_59 (by decide) ?_
          refine lv_irem hx hb d_M_send_61 (by decide) ?_
          refine sd_top (y := nI (M.1 % 64)) (pk_rem (by omega) (by omega) (by omega)) ?_
          refine lv_iconst (v := nI 3) hx hb d_M_send_62 (by decide) ?_
          refine lv_imul hx hb d_M_send_63 ?_
          refine sd_top (y := nI (M.1 % 64 * 3)) (pk_mul _ _) ?_
          refine lv_istore hx hb d_M_send_64 hl (Nat.le_of_ble_eq_true rfl) (lv' := [(4, .int (nI (M.1 % 64 * 3))), (0, .ref qm), (1, .int (a)), (2, .int (b)), (3, .int (x))]) rfl (fun ls hl => ?_)
          refine lv_aload_n hx hb d_M_send_66 rfl (lv_at hl 1 rfl) ?_
          refine va_get (D := D) (ci := 5) (v := .ref mg) (C := R_M) (T := F_M) (N := 26) hx hb hts wl_M hown hK hP 0 rfl rfl 13 (by decide) (hts _ wf_M_29) (fun _ h9 => h9) rfl d_M_send_67 ?_
          refine lv_iload hx hb d_M_send_70 (lv_at hl 0 rfl) ?_
          refine lv_iload_n hx hb d_M_send_72 rfl (lv_at hl 2 rfl) ?_
          refine sd_iast (j := M.1 % 64 * 3) hx hb hK hP hD hS 7 0 rfl rfl (by omega) (by omega) d_M_send_73 (fun H locs hP hD hS => ?_)
          have hP : va_P D cls (mW cI cZ qm mp mt ml mc mf me mg mh mu (cd) (nI k) (nI n) (nI (pn)) (nI (nx)) (ep) (nI (M.1)) ((M.2.2.1) - (1)) (0) (wi) (jb) (fp) (tf) (tt) (fi) (ln) (bx) (1000) (pr) (1000) (tk) (8) (le) (576) (co) (576) (fr) (10) (em) (192) (upd (M.2.1) (M.1 % 64 * 3) (a)) (10) (nb) (10) (su)) H := hP
          have hD : va_D A (mW cI cZ qm mp mt ml mc mf me mg mh mu (cd) (nI k) (nI n) (nI (pn)) (nI (nx)) (ep) (nI (M.1)) ((M.2.2.1) - (1)) (0) (wi) (jb) (fp) (tf) (tt) (fi) (ln) (bx) (1000) (pr) (1000) (tk) (8) (le) (576) (co) (576) (fr) (10) (em) (192) (upd (M.2.1) (M.1 % 64 * 3) (a)) (10) (nb) (10) (su)) := hD
          refine lv_aload_n hx hb d_M_send_74 rfl (lv_at hl 1 rfl) ?_
          refine va_get (D := D) (ci := 5) (v := .ref mg) (C := R_M) (T := F_M) (N := 26) hx hb hts wl_M hown hK hP 0 rfl rfl 13 (by decide) (hts _ wf_M_29) (fun _ h9 => h9) rfl d_M_send_75 ?_
          refine lv_iload hx hb d_M_send_78 (lv_at hl 0 rfl) ?_
          refine lv_iconst (v := nI 1) hx hb d_M_send_80 (by decide) ?_
          refine lv_iadd hx hb d_M_send_81 ?_
          refine sd_top (y := nI (M.1 % 64 * 3 + 1)) (nI_add _ _) ?_
          refine lv_iload_n hx hb d_M_send_82 rfl (lv_at hl 3 rfl) ?_
          refine sd_iast (j := M.1 % 64 * 3 + 1) hx hb hK hP hD hS 7 0 rfl rfl (by omega) (by omega) d_M_send_83 (fun H locs hP hD hS => ?_)
          have hP : va_P D cls (mW cI cZ qm mp mt ml mc mf me mg mh mu (cd) (nI k) (nI n) (nI (pn)) (nI (nx)) (ep) (nI (M.1)) ((M.2.2.1) - (1)) (0) (wi) (jb) (fp) (tf) (tt) (fi) (ln) (bx) (1000) (pr) (1000) (tk) (8) (le) (576) (co) (576) (fr) (10) (em) (192) (upd (upd (M.2.1) (M.1 % 64 * 3) (a)) (M.1 % 64 * 3 + 1) (b)) (10) (nb) (10) (su)) H := hP
          have hD : va_D A (mW cI cZ qm mp mt ml mc mf me mg mh mu (cd) (nI k) (nI n) (nI (pn)) (nI (nx)) (ep) (nI (M.1)) ((M.2.2.1) - (1)) (0) (wi) (jb) (fp) (tf) (tt) (fi) (ln) (bx) (1000) (pr) (1000) (tk) (8) (le) (576) (co) (576) (fr) (10) (em) (192) (upd (upd (M.2.1) (M.1 % 64 * 3) (a)) (M.1 % 64 * 3 + 1) (b)) (10) (nb) (10) (su)) := hD
          refine lv_aload_n hx hb d_M_send_84 rfl (lv_at hl 1 rfl) ?_
          refine va_get (D := D) (ci := 5) (v := .ref mg) (C := R_M) (T := F_M) (N := 26) hx hb hts wl_M hown hK hP 0 rfl rfl 13 (by decide) (hts _ wf_M_29) (fun _ h9 => h9) rfl d_M_send_85 ?_
          refine lv_iload hx hb d_M_send_88 (lv_at hl 0 rfl) ?_
          refine lv_iconst (v := nI 2) hx hb d_M_send_90 (by decide) ?_
          refine lv_iadd hx hb d_M_send_91 ?_
          refine sd_top (y := nI (M.1 % 64 * 3 + 2)) (nI_add _ _) ?_
          refine lv_iload_n hx hb d_M_send_92 rfl (lv_at hl 4 rfl) ?_
          refine sd_iast (j := M.1 % 64 * 3 + 2) hx hb hK hP hD hS 7 0 rfl rfl (by omega) (by omega) d_M_send_93 (fun H locs hP hD hS => ?_)
          have hP : va_P D cls (mW cI cZ qm mp mt ml mc mf me mg mh mu (cd) (nI k) (nI n) (nI (pn)) (nI (nx)) (ep) (nI (M.1)) ((M.2.2.1) - (1)) (0) (wi) (jb) (fp) (tf) (tt) (fi) (ln) (bx) (1000) (pr) (1000) (tk) (8) (le) (576) (co) (576) (fr) (10) (em) (192) (upd (upd (upd (M.2.1) (M.1 % 64 * 3) (a)) (M.1 % 64 * 3 + 1) (b)) (M.1 % 64 * 3 + 2) (x)) (10) (nb) (10) (su)) H := hP
          have hD : va_D A (mW cI cZ qm mp mt ml mc mf me mg mh mu (cd) (nI k) (nI n) (nI (pn)) (nI (nx)) (ep) (nI (M.1)) ((M.2.2.1) - (1)) (0) (wi) (jb) (fp) (tf) (tt) (fi) (ln) (bx) (1000) (pr) (1000) (tk) (8) (le) (576) (co) (576) (fr) (10) (em) (192) (upd (upd (upd (M.2.1) (M.1 % 64 * 3) (a)) (M.1 % 64 * 3 + 1) (b)) (M.1 % 64 * 3 + 2) (x)) (10) (nb) (10) (su)) := hD
          refine lv_aload_n hx hb d_M_send_94 rfl (lv_at hl 1 rfl) ?_
          refine lv_dup hx hb d_M_send_95 rfl ?_
          refine va_get (D := D) (ci := 5) (v := .int (nI (M.1))) (C := R_M) (T := F_M) (N := 26) hx hb hts wl_M hown hK hP 0 rfl rfl 12 (by decide) (hts _ wf_M_70) (fun _ h9 => h9) rfl d_M_send_96 ?_
          refine lv_iconst (v := 1) hx hb d_M_send_99 (by decide) ?_
          refine lv_iadd hx hb d_M_send_100 ?_
          refine sd_top (y := nI (M.1 + 1)) (nI_1 _) ?_
          refine va_put (D := D) (ci := 5) (v := .int (nI (M.1 + 1))) (ty := .int) (C := R_M) (T := F_M) (N := 26) hx hb hts wl_M t_M t_M_ok n_M hown hK hP hD hS 0 rfl rfl 12 (by decide) (hts _ wf_M_70) (fun _ h9 => h9) rfl (by decide +kernel) rfl rfl (Nat.le_of_ble_eq_true rfl) d_M_send_101 (fun H locs hP hD hS => ?_)
          have hP : va_P D cls (mW cI cZ qm mp mt ml mc mf me mg mh mu (cd) (nI k) (nI n) (nI (pn)) (nI (nx)) (ep) (nI (M.1 + 1)) ((M.2.2.1) - (1)) (0) (wi) (jb) (fp) (tf) (tt) (fi) (ln) (bx) (1000) (pr) (1000) (tk) (8) (le) (576) (co) (576) (fr) (10) (em) (192) (upd (upd (upd (M.2.1) (M.1 % 64 * 3) (a)) (M.1 % 64 * 3 + 1) (b)) (M.1 % 64 * 3 + 2) (x)) (10) (nb) (10) (su)) H := hP
          have hD : va_D A (mW cI cZ qm mp mt ml mc mf me mg mh mu (cd) (nI k) (nI n) (nI (pn)) (nI (nx)) (ep) (nI (M.1 + 1)) ((M.2.2.1) - (1)) (0) (wi) (jb) (fp) (tf) (tt) (fi) (ln) (bx) (1000) (pr) (1000) (tk) (8) (le) (576) (co) (576) (fr) (10) (em) (192) (upd (upd (upd (M.2.1) (M.1 % 64 * 3) (a)) (M.1 % 64 * 3 + 1) (b)) (M.1 % 64 * 3 + 2) (x)) (10) (nb) (10) (su)) := hD
          have hP : va_P D cls (mW cI cZ qm mp mt ml mc mf me mg mh mu (cd) (nI k) (nI n) (nI (pn)) (nI (nx)) (ep) (nI ((mm_s M a b x).1)) ((mm_s M a b x).2.2.1) ((mm_s M a b x).2.2.2) (wi) (jb) (fp) (tf) (tt) (fi) (ln) (bx) (1000) (pr) (1000) (tk) (8) (le) (576) (co) (576) (fr) (10) (em) (192) ((mm_s M a b x).2.1) (10) (nb) (10) (su)) H := by first | (rw [mm_y ⟨hc5, hc12⟩, if_pos hc36]; exact hP) | (rw [mm_y ⟨hc5, hc12⟩, if_neg hc36]; exact hP)
          exact sd_vret hx hb hr hlk hP hS (Nat.le_of_ble_eq_true rfl) (Nat.le_of_ble_eq_true rfl) d_M_send_104
      · skip
        exact False.elim (by revert hc27; decide)
    · skip
      refine lv_iconst (v := 1) hx hb d_M_send_15 (by decide) ?_
      refine lv_goto (tgt := 20) hx hb d_M_send_16 rfl ?_
      refine va_put (D := D) (ci := 5) (v := .int (1)) (ty := .boolean) (C := R_M) (T := F_M) (N := 26) hx hb hts wl_M t_M t_M_ok n_M hown hK hP hD hS 0 rfl rfl 15 (by decide) (hts _ wf_M_66) (fun _ h9 => h9) rfl (by decide +kernel) rfl rfl (Nat.le_of_ble_eq_true rfl) d_M_send_20 (fun H locs hP hD hS => ?_)
      have hP : va_P D cls (mW cI cZ qm mp mt ml mc mf me mg mh mu (cd) (nI k) (nI n) (nI (pn)) (nI (nx)) (ep) (nI (M.1)) (M.2.2.1) (1) (wi) (jb) (fp) (tf) (tt) (fi) (ln) (bx) (1000) (pr) (1000) (tk) (8) (le) (576) (co) (576) (fr) (10) (em) (192) (M.2.1) (10) (nb) (10) (su)) H := hP
      have hD : va_D A (mW cI cZ qm mp mt ml mc mf me mg mh mu (cd) (nI k) (nI n) (nI (pn)) (nI (nx)) (ep) (nI (M.1)) (M.2.2.1) (1) (wi) (jb) (fp) (tf) (tt) (fi) (ln) (bx) (1000) (pr) (1000) (tk) (8) (le) (576) (co) (576) (fr) (10) (em) (192) (M.2.1) (10) (nb) (10) (su)) := hD
      refine lv_aload_n hx hb d_M_send_23 rfl (lv_at hl 0 rfl) ?_
      refine va_get (D := D) (ci := 5) (v := .int (1)) (C := R_M) (T := F_M) (N := 26) hx hb hts wl_M hown hK hP 0 rfl rfl 15 (by decide) (hts _ wf_M_66) (fun _ h9 => h9) rfl d_M_send_24 ?_
      refine lv_if_eq (tgt := 31) hx hb d_M_send_27 rfl (fun hc27 => ?_) (fun hc27 => ?_)
      · skip
        exact False.elim (by revert hc27; decide)
      · skip
        have hP : va_P D cls (mW cI cZ qm mp mt ml mc mf me mg mh mu (cd) (nI k) (nI n) (nI (pn)) (nI (nx)) (ep) (nI ((mm_s M a b x).1)) ((mm_s M a b x).2.2.1) ((mm_s M a b x).2.2.2) (wi) (jb) (fp) (tf) (tt) (fi) (ln) (bx) (1000) (pr) (1000) (tk) (8) (le) (576) (co) (576) (fr) (10) (em) (192) ((mm_s M a b x).2.1) (10) (nb) (10) (su)) H := by rw [mm_n (by first | exact fun h => hc5 h.1 | exact fun h => h.2 hc12)]; exact hP
        exact sd_vret hx hb hr hlk hP hS (Nat.le_of_ble_eq_true rfl) (Nat.le_of_ble_eq_true rfl) d_M_send_30
end
section
/-- t bytes are taken of the first j: (taken, pool) -/
def tq_f (t : Nat) : Nat → (Nat → Int32) × (Nat → Int32) → (Nat → Int32) × (Nat → Int32)
  | 0, S => S
  | j + 1, S => if j < t then (upd (tq_f t j S).1 j ((tq_f t j S).2 j), (tq_f t j S).2) else ((tq_f t j S).1, upd (tq_f t j S).2 (j - t) ((tq_f t j S).2 j))
/-- coefficients 1 .. t of the byte at o get a taken byte each -/
def dl_f (tk : Nat → Int32) (o nx : Nat) : Nat → (Nat → Int32) → Nat → Int32
  | 0, fr => fr
  | t + 1, fr => upd (dl_f tk o nx t fr) (o + (t + 1)) (dl_f tk o nx t fr (o + (t + 1)) ^^^ tk (nx + t))
def dm_f (fb tb : Nat → BitVec 8) (nx : Nat) : Nat → BitVec 8 := fun j => if j = 0 then fb 0 else fb j ^^^ tb (nx + (j - 1))
theorem dl_i (tk : Nat → Int32) (o nx t : Nat) (fr : Nat → Int32) : ∀ j, dl_f tk o nx t fr (o + j) = if 1 ≤ j ∧ j ≤ t then fr (o + j) ^^^ tk (nx + (j - 1)) else fr (o + j) := by
  induction t with
  | zero => intro j; rw [if_neg (by omega)]; rfl
  | succ t ih =>
    intro j
    show upd (dl_f tk o nx t fr) (o + (t + 1)) (dl_f tk o nx t fr (o + (t + 1)) ^^^ tk (nx + t)) (o + j) = _
    unfold upd
    by_cases h : j = t + 1
    · rw [if_pos (by omega), ih, if_neg (by omega), if_pos (by omega), h]; rfl
    · rw [if_neg (by omega), ih]
      by_cases h2 : 1 ≤ j ∧ j ≤ t
      · rw [if_pos h2, if_pos (by omega)]
      · rw [if_neg h2, if_neg (by omega)]
theorem dm_b {tk fr : Nat → Int32} {o nx k : Nat} {fb tb : Nat → BitVec 8} (hfr : ∀ j, j < k → fr (o + j) = bI (fb j)) (htk : ∀ i, i < 1000 → tk i = bI (tb i)) (hnx : nx + (k - 1) ≤ 1000) (hk1 : 1 ≤ k) : ∀ j, j < k → dl_f tk o nx (k - 1) fr (o + j) = bI (dm_f fb tb nx j) := by
  intro j hj
  rw [dl_i]
  unfold dm_f
  by_cases h : j = 0
  · subst h
    rw [if_neg (by omega), if_pos rfl, hfr 0 (by omega)]
  · rw [if_pos (by omega), if_neg h, hfr j hj, htk _ (by omega), bI_xor]
def ds_f (vb : Nat → BitVec 8) : Nat → mm_T → mm_T
  | 0, M => M
  | u + 1, M => mm_s (ds_f vb u M) 0 (nI (u + 1)) (bI (vb (u + 1)))
theorem ds_b (vb : Nat → BitVec 8) (u : Nat) (M : mm_T) : (ds_f vb u M).1 ≤ M.1 + u := by
  induction u with
  | zero => exact Nat.le_refl _
  | succ u ih =>
    have := mm_b (ds_f vb u M) 0 (nI (u + 1)) (bI (vb (u + 1)))
    show (mm_s (ds_f vb u M) 0 (nI (u + 1)) (bI (vb (u + 1)))).1 ≤ _
    omega
/-- boxes from i on are told to tidy until the job is cut: (messages, the first that was not) -/
def mt_f : Nat → Nat → mm_T × Nat → mm_T × Nat
  | 0, _, S => S
  | d + 1, i, S => if S.1.2.2.2 = 0 then mt_f d (i + 1) (mm_s S.1 0 (nI i) 257, if (mm_s S.1 0 (nI i) 257).2.2.2 = 0 then i + 1 else i) else S
theorem mt_e {d i f2 : Nat} {M2 : mm_T} (h : ¬ M2.2.2.2 = 0) : mt_f d i (M2, f2) = (M2, f2) := by
  cases d with
  | zero => rfl
  | succ d => exact if_neg h
theorem mt_S {g i f2 : Nat} {M2 : mm_T} (hi : i ≤ g) (h : M2.2.2.2 = 0) : mt_f (g + 1 - i) i (M2, f2) = mt_f (g + 1 - (i + 1)) (i + 1) (mm_s M2 0 (nI i) 257, if (mm_s M2 0 (nI i) 257).2.2.2 = 0 then i + 1 else i) := by
  rw [show g + 1 - i = (g + 1 - (i + 1)) + 1 by omega]
  exact if_pos h
theorem d_M_take_0 : decode b_M_take 0 = .ok (.iconst 0, 1) := by decide +kernel
theorem d_M_take_1 : decode b_M_take 1 = .ok (.istore_n 2, 1) := by decide +kernel
theorem d_M_take_2 : decode b_M_take 2 = .ok (.iload_n 2, 1) := by decide +kernel
theorem d_M_take_3 : decode b_M_take 3 = .ok (.aload_n 0, 1) := by decide +kernel
theorem d_M_take_4 : decode b_M_take 4 = .ok (.getfield 58, 3) := by decide +kernel
theorem d_M_take_7 : decode b_M_take 7 = .ok (.if_icmp .ge 43, 3) := by decide +kernel
theorem d_M_take_10 : decode b_M_take 10 = .ok (.iload_n 2, 1) := by decide +kernel
theorem d_M_take_11 : decode b_M_take 11 = .ok (.iload_n 1, 1) := by decide +kernel
theorem d_M_take_12 : decode b_M_take 12 = .ok (.if_icmp .ge 18, 3) := by decide +kernel
theorem d_M_take_15 : decode b_M_take 15 = .ok (.aload_n 0, 1) := by decide +kernel
theorem d_M_take_16 : decode b_M_take 16 = .ok (.getfield 13, 3) := by decide +kernel
theorem d_M_take_19 : decode b_M_take 19 = .ok (.iload_n 2, 1) := by decide +kernel
theorem d_M_take_20 : decode b_M_take 20 = .ok (.aload_n 0, 1) := by decide +kernel
theorem d_M_take_21 : decode b_M_take 21 = .ok (.getfield 7, 3) := by decide +kernel
theorem d_M_take_24 : decode b_M_take 24 = .ok (.iload_n 2, 1) := by decide +kernel
theorem d_M_take_25 : decode b_M_take 25 = .ok (.iaload, 1) := by decide +kernel
theorem d_M_take_26 : decode b_M_take 26 = .ok (.iastore, 1) := by decide +kernel
theorem d_M_take_27 : decode b_M_take 27 = .ok (.goto 17, 3) := by decide +kernel
theorem d_M_take_30 : decode b_M_take 30 = .ok (.aload_n 0, 1) := by decide +kernel
theorem d_M_take_31 : decode b_M_take 31 = .ok (.getfield 7, 3) := by decide +kernel
theorem d_M_take_34 : decode b_M_take 34 = .ok (.iload_n 2, 1) := by decide +kernel
theorem d_M_take_35 : decode b_M_take 35 = .ok (.iload_n 1, 1) := by decide +kernel
theorem d_M_take_36 : decode b_M_take 36 = .ok (.isub, 1) := by decide +kernel
theorem d_M_take_37 : decode b_M_take 37 = .ok (.aload_n 0, 1) := by decide +kernel
theorem d_M_take_38 : decode b_M_take 38 = .ok (.getfield 7, 3) := by decide +kernel
theorem d_M_take_41 : decode b_M_take 41 = .ok (.iload_n 2, 1) := by decide +kernel
theorem d_M_take_42 : decode b_M_take 42 = .ok (.iaload, 1) := by decide +kernel
theorem d_M_take_43 : decode b_M_take 43 = .ok (.iastore, 1) := by decide +kernel
theorem d_M_take_44 : decode b_M_take 44 = .ok (.iinc 2 1, 3) := by decide +kernel
theorem d_M_take_47 : decode b_M_take 47 = .ok (.goto (-45), 3) := by decide +kernel
theorem d_M_take_50 : decode b_M_take 50 = .ok (.aload_n 0, 1) := by decide +kernel
theorem d_M_take_51 : decode b_M_take 51 = .ok (.aload_n 0, 1) := by decide +kernel
theorem d_M_take_52 : decode b_M_take 52 = .ok (.getfield 58, 3) := by decide +kernel
theorem d_M_take_55 : decode b_M_take 55 = .ok (.iload_n 1, 1) := by decide +kernel
theorem d_M_take_56 : decode b_M_take 56 = .ok (.isub, 1) := by decide +kernel
theorem d_M_take_57 : decode b_M_take 57 = .ok (.putfield 58, 3) := by decide +kernel
theorem d_M_take_60 : decode b_M_take 60 = .ok (.aload_n 0, 1) := by decide +kernel
theorem d_M_take_61 : decode b_M_take 61 = .ok (.iconst 0, 1) := by decide +kernel
theorem d_M_take_62 : decode b_M_take 62 = .ok (.putfield 63, 3) := by decide +kernel
theorem d_M_take_65 : decode b_M_take 65 = .ok (.return_, 1) := by decide +kernel
theorem d_M_valueAt_0 : decode b_M_valueAt 0 = .ok (.iconst 0, 1) := by decide +kernel
theorem d_M_valueAt_1 : decode b_M_valueAt 1 = .ok (.istore 4, 2) := by decide +kernel
theorem d_M_valueAt_3 : decode b_M_valueAt 3 = .ok (.aload_n 0, 1) := by decide +kernel
theorem d_M_valueAt_4 : decode b_M_valueAt 4 = .ok (.getfield 48, 3) := by decide +kernel
theorem d_M_valueAt_7 : decode b_M_valueAt 7 = .ok (.iconst 1, 1) := by decide +kernel
theorem d_M_valueAt_8 : decode b_M_valueAt 8 = .ok (.isub, 1) := by decide +kernel
theorem d_M_valueAt_9 : decode b_M_valueAt 9 = .ok (.istore 5, 2) := by decide +kernel
theorem d_M_valueAt_11 : decode b_M_valueAt 11 = .ok (.iload 5, 2) := by decide +kernel
theorem d_M_valueAt_13 : decode b_M_valueAt 13 = .ok (.ifCond .lt 24, 3) := by decide +kernel
theorem d_M_valueAt_16 : decode b_M_valueAt 16 = .ok (.iload 4, 2) := by decide +kernel
theorem d_M_valueAt_18 : decode b_M_valueAt 18 = .ok (.iload_n 3, 1) := by decide +kernel
theorem d_M_valueAt_19 : decode b_M_valueAt 19 = .ok (.invokestatic 54, 3) := by decide +kernel
theorem d_M_valueAt_22 : decode b_M_valueAt 22 = .ok (.aload_n 1, 1) := by decide +kernel
theorem d_M_valueAt_23 : decode b_M_valueAt 23 = .ok (.iload_n 2, 1) := by decide +kernel
theorem d_M_valueAt_24 : decode b_M_valueAt 24 = .ok (.iload 5, 2) := by decide +kernel
theorem d_M_valueAt_26 : decode b_M_valueAt 26 = .ok (.iadd, 1) := by decide +kernel
theorem d_M_valueAt_27 : decode b_M_valueAt 27 = .ok (.iaload, 1) := by decide +kernel
theorem d_M_valueAt_28 : decode b_M_valueAt 28 = .ok (.ixor, 1) := by decide +kernel
theorem d_M_valueAt_29 : decode b_M_valueAt 29 = .ok (.istore 4, 2) := by decide +kernel
theorem d_M_valueAt_31 : decode b_M_valueAt 31 = .ok (.iinc 5 (-1), 3) := by decide +kernel
theorem d_M_valueAt_34 : decode b_M_valueAt 34 = .ok (.goto (-23), 3) := by decide +kernel
theorem d_M_valueAt_37 : decode b_M_valueAt 37 = .ok (.iload 4, 2) := by decide +kernel
theorem d_M_valueAt_39 : decode b_M_valueAt 39 = .ok (.ireturn, 1) := by decide +kernel
theorem d_M_deal_0 : decode b_M_deal 0 = .ok (.bipush 9, 2) := by decide +kernel
theorem d_M_deal_2 : decode b_M_deal 2 = .ok (.bipush 8, 2) := by decide +kernel
theorem d_M_deal_4 : decode b_M_deal 4 = .ok (.iload_n 1, 1) := by decide +kernel
theorem d_M_deal_5 : decode b_M_deal 5 = .ok (.imul, 1) := by decide +kernel
theorem d_M_deal_6 : decode b_M_deal 6 = .ok (.iload_n 2, 1) := by decide +kernel
theorem d_M_deal_7 : decode b_M_deal 7 = .ok (.iadd, 1) := by decide +kernel
theorem d_M_deal_8 : decode b_M_deal 8 = .ok (.imul, 1) := by decide +kernel
theorem d_M_deal_9 : decode b_M_deal 9 = .ok (.istore_n 3, 1) := by decide +kernel
theorem d_M_deal_10 : decode b_M_deal 10 = .ok (.iconst 1, 1) := by decide +kernel
theorem d_M_deal_11 : decode b_M_deal 11 = .ok (.istore 4, 2) := by decide +kernel
theorem d_M_deal_13 : decode b_M_deal 13 = .ok (.iload 4, 2) := by decide +kernel
theorem d_M_deal_15 : decode b_M_deal 15 = .ok (.aload_n 0, 1) := by decide +kernel
theorem d_M_deal_16 : decode b_M_deal 16 = .ok (.getfield 48, 3) := by decide +kernel
theorem d_M_deal_19 : decode b_M_deal 19 = .ok (.if_icmp .ge 32, 3) := by decide +kernel
theorem d_M_deal_22 : decode b_M_deal 22 = .ok (.aload_n 0, 1) := by decide +kernel
theorem d_M_deal_23 : decode b_M_deal 23 = .ok (.getfield 22, 3) := by decide +kernel
theorem d_M_deal_26 : decode b_M_deal 26 = .ok (.iload_n 3, 1) := by decide +kernel
theorem d_M_deal_27 : decode b_M_deal 27 = .ok (.iload 4, 2) := by decide +kernel
theorem d_M_deal_29 : decode b_M_deal 29 = .ok (.iadd, 1) := by decide +kernel
theorem d_M_deal_30 : decode b_M_deal 30 = .ok (.aload_n 0, 1) := by decide +kernel
theorem d_M_deal_31 : decode b_M_deal 31 = .ok (.getfield 22, 3) := by decide +kernel
theorem d_M_deal_34 : decode b_M_deal 34 = .ok (.iload_n 3, 1) := by decide +kernel
theorem d_M_deal_35 : decode b_M_deal 35 = .ok (.iload 4, 2) := by decide +kernel
theorem d_M_deal_37 : decode b_M_deal 37 = .ok (.iadd, 1) := by decide +kernel
theorem d_M_deal_38 : decode b_M_deal 38 = .ok (.iaload, 1) := by decide +kernel
theorem d_M_deal_39 : decode b_M_deal 39 = .ok (.aload_n 0, 1) := by decide +kernel
theorem d_M_deal_40 : decode b_M_deal 40 = .ok (.invokevirtual 73, 3) := by decide +kernel
theorem d_M_deal_43 : decode b_M_deal 43 = .ok (.ixor, 1) := by decide +kernel
theorem d_M_deal_44 : decode b_M_deal 44 = .ok (.iastore, 1) := by decide +kernel
theorem d_M_deal_45 : decode b_M_deal 45 = .ok (.iinc 4 1, 3) := by decide +kernel
theorem d_M_deal_48 : decode b_M_deal 48 = .ok (.goto (-35), 3) := by decide +kernel
theorem d_M_deal_51 : decode b_M_deal 51 = .ok (.iconst 1, 1) := by decide +kernel
theorem d_M_deal_52 : decode b_M_deal 52 = .ok (.istore 4, 2) := by decide +kernel
theorem d_M_deal_54 : decode b_M_deal 54 = .ok (.iload 4, 2) := by decide +kernel
theorem d_M_deal_56 : decode b_M_deal 56 = .ok (.aload_n 0, 1) := by decide +kernel
theorem d_M_deal_57 : decode b_M_deal 57 = .ok (.getfield 45, 3) := by decide +kernel
theorem d_M_deal_60 : decode b_M_deal 60 = .ok (.if_icmp .gt 27, 3) := by decide +kernel
theorem d_M_deal_63 : decode b_M_deal 63 = .ok (.aload_n 0, 1) := by decide +kernel
theorem d_M_deal_64 : decode b_M_deal 64 = .ok (.iconst 0, 1) := by decide +kernel
theorem d_M_deal_65 : decode b_M_deal 65 = .ok (.iload 4, 2) := by decide +kernel
theorem d_M_deal_67 : decode b_M_deal 67 = .ok (.aload_n 0, 1) := by decide +kernel
theorem d_M_deal_68 : decode b_M_deal 68 = .ok (.aload_n 0, 1) := by decide +kernel
theorem d_M_deal_69 : decode b_M_deal 69 = .ok (.getfield 22, 3) := by decide +kernel
theorem d_M_deal_72 : decode b_M_deal 72 = .ok (.iload_n 3, 1) := by decide +kernel
theorem d_M_deal_73 : decode b_M_deal 73 = .ok (.iload 4, 2) := by decide +kernel
theorem d_M_deal_75 : decode b_M_deal 75 = .ok (.invokevirtual 77, 3) := by decide +kernel
theorem d_M_deal_78 : decode b_M_deal 78 = .ok (.invokevirtual 81, 3) := by decide +kernel
theorem d_M_deal_81 : decode b_M_deal 81 = .ok (.iinc 4 1, 3) := by decide +kernel
theorem d_M_deal_84 : decode b_M_deal 84 = .ok (.goto (-30), 3) := by decide +kernel
theorem d_M_deal_87 : decode b_M_deal 87 = .ok (.return_, 1) := by decide +kernel
theorem d_M_tidy_0 : decode b_M_tidy 0 = .ok (.aload_n 0, 1) := by decide +kernel
theorem d_M_tidy_1 : decode b_M_tidy 1 = .ok (.getfield 91, 3) := by decide +kernel
theorem d_M_tidy_4 : decode b_M_tidy 4 = .ok (.istore_n 1, 1) := by decide +kernel
theorem d_M_tidy_5 : decode b_M_tidy 5 = .ok (.iload_n 1, 1) := by decide +kernel
theorem d_M_tidy_6 : decode b_M_tidy 6 = .ok (.aload_n 0, 1) := by decide +kernel
theorem d_M_tidy_7 : decode b_M_tidy 7 = .ok (.getfield 94, 3) := by decide +kernel
theorem d_M_tidy_10 : decode b_M_tidy 10 = .ok (.if_icmp .gt 43, 3) := by decide +kernel
theorem d_M_tidy_13 : decode b_M_tidy 13 = .ok (.aload_n 0, 1) := by decide +kernel
theorem d_M_tidy_14 : decode b_M_tidy 14 = .ok (.getfield 66, 3) := by decide +kernel
theorem d_M_tidy_17 : decode b_M_tidy 17 = .ok (.ifCond .ne 36, 3) := by decide +kernel
theorem d_M_tidy_20 : decode b_M_tidy 20 = .ok (.aload_n 0, 1) := by decide +kernel
theorem d_M_tidy_21 : decode b_M_tidy 21 = .ok (.iconst 0, 1) := by decide +kernel
theorem d_M_tidy_22 : decode b_M_tidy 22 = .ok (.iload_n 1, 1) := by decide +kernel
theorem d_M_tidy_23 : decode b_M_tidy 23 = .ok (.sipush 257, 3) := by decide +kernel
theorem d_M_tidy_26 : decode b_M_tidy 26 = .ok (.invokevirtual 81, 3) := by decide +kernel
theorem d_M_tidy_29 : decode b_M_tidy 29 = .ok (.aload_n 0, 1) := by decide +kernel
theorem d_M_tidy_30 : decode b_M_tidy 30 = .ok (.aload_n 0, 1) := by decide +kernel
theorem d_M_tidy_31 : decode b_M_tidy 31 = .ok (.getfield 66, 3) := by decide +kernel
theorem d_M_tidy_34 : decode b_M_tidy 34 = .ok (.ifCond .eq 7, 3) := by decide +kernel
theorem d_M_tidy_37 : decode b_M_tidy 37 = .ok (.iload_n 1, 1) := by decide +kernel
theorem d_M_tidy_38 : decode b_M_tidy 38 = .ok (.goto 6, 3) := by decide +kernel
theorem d_M_tidy_41 : decode b_M_tidy 41 = .ok (.iload_n 1, 1) := by decide +kernel
theorem d_M_tidy_42 : decode b_M_tidy 42 = .ok (.iconst 1, 1) := by decide +kernel
theorem d_M_tidy_43 : decode b_M_tidy 43 = .ok (.iadd, 1) := by decide +kernel
theorem d_M_tidy_44 : decode b_M_tidy 44 = .ok (.putfield 91, 3) := by decide +kernel
theorem d_M_tidy_47 : decode b_M_tidy 47 = .ok (.iinc 1 1, 3) := by decide +kernel
theorem d_M_tidy_50 : decode b_M_tidy 50 = .ok (.goto (-45), 3) := by decide +kernel
theorem d_M_tidy_53 : decode b_M_tidy 53 = .ok (.return_, 1) := by decide +kernel
theorem d_M_flip_0 : decode b_M_flip 0 = .ok (.aload_n 0, 1) := by decide +kernel
theorem d_M_flip_1 : decode b_M_flip 1 = .ok (.iconst 1, 1) := by decide +kernel
theorem d_M_flip_2 : decode b_M_flip 2 = .ok (.putfield 97, 3) := by decide +kernel
theorem d_M_flip_5 : decode b_M_flip 5 = .ok (.aload_n 0, 1) := by decide +kernel
theorem d_M_flip_6 : decode b_M_flip 6 = .ok (.getfield 100, 3) := by decide +kernel
theorem d_M_flip_9 : decode b_M_flip 9 = .ok (.iconst 1, 1) := by decide +kernel
theorem d_M_flip_10 : decode b_M_flip 10 = .ok (.if_icmp .ne 16, 3) := by decide +kernel
theorem d_M_flip_13 : decode b_M_flip 13 = .ok (.aload_n 0, 1) := by decide +kernel
theorem d_M_flip_14 : decode b_M_flip 14 = .ok (.getfield 16, 3) := by decide +kernel
theorem d_M_flip_17 : decode b_M_flip 17 = .ok (.aload_n 0, 1) := by decide +kernel
theorem d_M_flip_18 : decode b_M_flip 18 = .ok (.getfield 103, 3) := by decide +kernel
theorem d_M_flip_21 : decode b_M_flip 21 = .ok (.aload_n 0, 1) := by decide +kernel
theorem d_M_flip_22 : decode b_M_flip 22 = .ok (.getfield 106, 3) := by decide +kernel
theorem d_M_flip_25 : decode b_M_flip 25 = .ok (.iastore, 1) := by decide +kernel
theorem d_M_flip_26 : decode b_M_flip 26 = .ok (.aload_n 0, 1) := by decide +kernel
theorem d_M_flip_27 : decode b_M_flip 27 = .ok (.getfield 100, 3) := by decide +kernel
theorem d_M_flip_30 : decode b_M_flip 30 = .ok (.iconst 3, 1) := by decide +kernel
theorem d_M_flip_31 : decode b_M_flip 31 = .ok (.if_icmp .ne 16, 3) := by decide +kernel
theorem d_M_flip_34 : decode b_M_flip 34 = .ok (.aload_n 0, 1) := by decide +kernel
theorem d_M_flip_35 : decode b_M_flip 35 = .ok (.getfield 25, 3) := by decide +kernel
theorem d_M_flip_38 : decode b_M_flip 38 = .ok (.aload_n 0, 1) := by decide +kernel
theorem d_M_flip_39 : decode b_M_flip 39 = .ok (.getfield 85, 3) := by decide +kernel
theorem d_M_flip_42 : decode b_M_flip 42 = .ok (.iconst 0, 1) := by decide +kernel
theorem d_M_flip_43 : decode b_M_flip 43 = .ok (.bastore, 1) := by decide +kernel
theorem d_M_flip_44 : decode b_M_flip 44 = .ok (.goto 30, 3) := by decide +kernel
theorem d_M_flip_47 : decode b_M_flip 47 = .ok (.iconst 0, 1) := by decide +kernel
theorem d_M_flip_48 : decode b_M_flip 48 = .ok (.istore_n 1, 1) := by decide +kernel
theorem d_M_flip_49 : decode b_M_flip 49 = .ok (.iload_n 1, 1) := by decide +kernel
theorem d_M_flip_50 : decode b_M_flip 50 = .ok (.sipush 576, 3) := by decide +kernel
theorem d_M_flip_53 : decode b_M_flip 53 = .ok (.if_icmp .ge 21, 3) := by decide +kernel
theorem d_M_flip_56 : decode b_M_flip 56 = .ok (.aload_n 0, 1) := by decide +kernel
theorem d_M_flip_57 : decode b_M_flip 57 = .ok (.getfield 19, 3) := by decide +kernel
theorem d_M_flip_60 : decode b_M_flip 60 = .ok (.iload_n 1, 1) := by decide +kernel
theorem d_M_flip_61 : decode b_M_flip 61 = .ok (.aload_n 0, 1) := by decide +kernel
theorem d_M_flip_62 : decode b_M_flip 62 = .ok (.getfield 22, 3) := by decide +kernel
theorem d_M_flip_65 : decode b_M_flip 65 = .ok (.iload_n 1, 1) := by decide +kernel
theorem d_M_flip_66 : decode b_M_flip 66 = .ok (.iaload, 1) := by decide +kernel
theorem d_M_flip_67 : decode b_M_flip 67 = .ok (.iastore, 1) := by decide +kernel
theorem d_M_flip_68 : decode b_M_flip 68 = .ok (.iinc 1 1, 3) := by decide +kernel
theorem d_M_flip_71 : decode b_M_flip 71 = .ok (.goto (-22), 3) := by decide +kernel
theorem d_M_flip_74 : decode b_M_flip 74 = .ok (.aload_n 0, 1) := by decide +kernel
theorem d_M_flip_75 : decode b_M_flip 75 = .ok (.aload_n 0, 1) := by decide +kernel
theorem d_M_flip_76 : decode b_M_flip 76 = .ok (.getfield 100, 3) := by decide +kernel
theorem d_M_flip_79 : decode b_M_flip 79 = .ok (.iconst 2, 1) := by decide +kernel
theorem d_M_flip_80 : decode b_M_flip 80 = .ok (.if_icmp .ne 12, 3) := by decide +kernel
theorem d_M_flip_83 : decode b_M_flip 83 = .ok (.aload_n 0, 1) := by decide +kernel
theorem d_M_flip_84 : decode b_M_flip 84 = .ok (.getfield 109, 3) := by decide +kernel
theorem d_M_flip_87 : decode b_M_flip 87 = .ok (.iconst 1, 1) := by decide +kernel
theorem d_M_flip_88 : decode b_M_flip 88 = .ok (.iadd, 1) := by decide +kernel
theorem d_M_flip_89 : decode b_M_flip 89 = .ok (.goto 7, 3) := by decide +kernel
theorem d_M_flip_92 : decode b_M_flip 92 = .ok (.aload_n 0, 1) := by decide +kernel
theorem d_M_flip_93 : decode b_M_flip 93 = .ok (.getfield 109, 3) := by decide +kernel
theorem d_M_flip_96 : decode b_M_flip 96 = .ok (.putfield 109, 3) := by decide +kernel
theorem d_M_flip_99 : decode b_M_flip 99 = .ok (.return_, 1) := by decide +kernel
set_option maxHeartbeats 4000000 in
set_option maxRecDepth 100000 in
theorem c_M_take (l : Launch) (D : va_G) (cI cZ cQ : ClassId) (qm : Nat) (mp : Nat) (mt : Nat) (ml : Nat) (mc : Nat) (mf : Nat) (me : Nat) (mg : Nat) (mh : Nat) (mu : Nat) (k : Nat) (n : Nat) (pn : Nat) (nx : Nat) (cd : Int32) (ep : Int32) (M : mm_T) (wi : Int32) (jb : Int32) (fp : Int32) (tf : Int32) (tt : Int32) (fi : Int32) (ln : Int32) (bx : Int32) (pr : Nat → Int32) (tk : Nat → Int32) (le : Nat → Int32) (co : Nat → Int32) (fr : Nat → Int32) (em : Nat → Int32) (nb : Nat → Int32) (su : Nat → Int32) (t : Nat) (hk : k ≤ 9) (hn : n ≤ 9) (ht : t ≤ pn) (hpn : pn ≤ 1000) : sd_V l D (tyL cI cZ cQ) y_M_take b_M_take 3 ({ frames := 0, cells := 0, slots := 0, locals := 0 }) [.ref qm, .int (nI t)] (mW cI cZ qm mp mt ml mc mf me mg mh mu (cd) (nI k) (nI n) (nI (pn)) (nI (nx)) (ep) (nI (M.1)) (M.2.2.1) (M.2.2.2) (wi) (jb) (fp) (tf) (tt) (fi) (ln) (bx) (1000) (pr) (1000) (tk) (8) (le) (576) (co) (576) (fr) (10) (em) (192) (M.2.1) (10) (nb) (10) (su)) (mW cI cZ qm mp mt ml mc mf me mg mh mu (cd) (nI k) (nI n) (nI (pn - t)) (nI (0)) (ep) (nI (M.1)) (M.2.2.1) (M.2.2.2) (wi) (jb) (fp) (tf) (tt) (fi) (ln) (bx) (1000) ((tq_f t pn (tk, pr)).2) (1000) ((tq_f t pn (tk, pr)).1) (8) (le) (576) (co) (576) (fr) (10) (em) (192) (M.2.1) (10) (nb) (10) (su)) := by
  refine sd_ofV (by decide) (Nat.le_of_ble_eq_true rfl) ?_
  intro p e s m below meth c A ls hx hb hr hml hlk hown hts hK hP hD hA hS hl
  have hl : lv_has ls 3 [(0, .ref qm), (1, .int (nI t))] := hl
  refine lv_iconst (v := 0) hx hb d_M_take_0 (by decide) ?_
  refine sd_top (y := nI 0) (rfl) ?_
  refine lv_istore_n hx hb d_M_take_1 rfl hl (Nat.le_of_ble_eq_true rfl) (lv' := [(2, .int (nI 0)), (0, .ref qm), (1, .int (nI t))]) rfl (fun ls hl => ?_)
  have hl := lv_sub hl (l' := [(0, .ref qm), (1, .int (nI t)), (2, .int (nI 0))]) [1, 2, 0] rfl
  have loop2 : ∀ (d : Nat) (j : Nat) (ls : Array Slot) (H : Heap) (locs : List Loc), pn - j = d → (j ≤ pn) → lv_has ls 3 [(0, .ref qm), (1, .int (nI t)), (2, .int (nI (j)))] → va_P D cls (mW cI cZ qm mp mt ml mc mf me mg mh mu (cd) (nI k) (nI n) (nI (pn)) (nI (nx)) (ep) (nI (M.1)) (M.2.2.1) (M.2.2.2) (wi) (jb) (fp) (tf) (tt) (fi) (ln) (bx) (1000) ((tq_f t j (tk, pr)).2) (1000) ((tq_f t j (tk, pr)).1) (8) (le) (576) (co) (576) (fr) (10) (em) (192) (M.2.1) (10) (nb) (10) (su)) H → va_D A (mW cI cZ qm mp mt ml mc mf me mg mh mu (cd) (nI k) (nI n) (nI (pn)) (nI (nx)) (ep) (nI (M.1)) (M.2.2.1) (M.2.2.2) (wi) (jb) (fp) (tf) (tt) (fi) (ln) (bx) (1000) ((tq_f t j (tk, pr)).2) (1000) ((tq_f t j (tk, pr)).1) (8) (le) (576) (co) (576) (fr) (10) (em) (192) (M.2.1) (10) (nb) (10) (su)) → va_S A s.heap H locs → W p l e ({ frames := 0, cells := 0, slots := 0, locals := 0 }) s m ([.ref qm, .int (nI t)] : List Value).toArray below meth c H locs 0 0 (MQ below (sd_qv D (mW cI cZ qm mp mt ml mc mf me mg mh mu (cd) (nI k) (nI n) (nI (pn - t)) (nI (0)) (ep) (nI (M.1)) (M.2.2.1) (M.2.2.2) (wi) (jb) (fp) (tf) (tt) (fi) (ln) (bx) (1000) ((tq_f t pn (tk, pr)).2) (1000) ((tq_f t pn (tk, pr)).1) (8) (le) (576) (co) (576) (fr) (10) (em) (192) (M.2.1) (10) (nb) (10) (su)) A) ([.ref qm, .int (nI t)] : List Value).toArray s 0 0 A) (F0 m 2 ls []) := by
    intro d
    induction d using Nat.strongRecOn with
    | _ d ih2 =>
    intro j ls H locs hd hj hl hP hD hS
    subst hd
    refine lv_iload_n hx hb d_M_take_2 rfl (lv_at hl 2 rfl) ?_
    refine lv_aload_n hx hb d_M_take_3 rfl (lv_at hl 0 rfl) ?_
    refine va_get (D := D) (ci := 5) (v := .int (nI (pn))) (C := R_M) (T := F_M) (N := 26) hx hb hts wl_M hown hK hP 0 rfl rfl 3 (by decide) (hts _ wf_M_58) (fun _ h9 => h9) rfl d_M_take_4 ?_
    refine lv_icmp_ge (tgt := 50) hx hb d_M_take_7 rfl (fun hc7 => ?_) (fun hc7 => ?_)
    · skip
      rw [nI_leI (by omega) (by omega)] at hc7
      have hj9 : pn = j := by omega
      subst hj9
      refine lv_aload_n hx hb d_M_take_50 rfl (lv_at hl 0 rfl) ?_
      refine lv_aload_n hx hb d_M_take_51 rfl (lv_at hl 0 rfl) ?_
      refine va_get (D := D) (ci := 5) (v := .int (nI (pn))) (C := R_M) (T := F_M) (N := 26) hx hb hts wl_M hown hK hP 0 rfl rfl 3 (by decide) (hts _ wf_M_58) (fun _ h9 => h9) rfl d_M_take_52 ?_
      refine lv_iload_n hx hb d_M_take_55 rfl (lv_at hl 1 rfl) ?_
      refine lv_isub hx hb d_M_take_56 ?_
      refine sd_top (y := nI (pn - t)) (pk_sub ht) ?_
      refine va_put (D := D) (ci := 5) (v := .int (nI (pn - t))) (ty := .int) (C := R_M) (T := F_M) (N := 26) hx hb hts wl_M t_M t_M_ok n_M hown hK hP hD hS 0 rfl rfl 3 (by decide) (hts _ wf_M_58) (fun _ h9 => h9) rfl (by decide +kernel) rfl rfl (Nat.le_of_ble_eq_true rfl) d_M_take_57 (fun H locs hP hD hS => ?_)
      have hP : va_P D cls (mW cI cZ qm mp mt ml mc mf me mg mh mu (cd) (nI k) (nI n) (nI (pn - t)) (nI (nx)) (ep) (nI (M.1)) (M.2.2.1) (M.2.2.2) (wi) (jb) (fp) (tf) (tt) (fi) (ln) (bx) (1000) ((tq_f t pn (tk, pr)).2) (1000) ((tq_f t pn (tk, pr)).1) (8) (le) (576) (co) (576) (fr) (10) (em) (192) (M.2.1) (10) (nb) (10) (su)) H := hP
      have hD : va_D A (mW cI cZ qm mp mt ml mc mf me mg mh mu (cd) (nI k) (nI n) (nI (pn - t)) (nI (nx)) (ep) (nI (M.1)) (M.2.2.1) (M.2.2.2) (wi) (jb) (fp) (tf) (tt) (fi) (ln) (bx) (1000) ((tq_f t pn (tk, pr)).2) (1000) ((tq_f t pn (tk, pr)).1) (8) (le) (576) (co) (576) (fr) (10) (em) (192) (M.2.1) (10) (nb) (10) (su)) := hD
      refine lv_aload_n hx hb d_M_take_60 rfl (lv_at hl 0 rfl) ?_
      refine lv_iconst (v := nI 0) hx hb d_M_take_61 (by decide) ?_
      refine va_put (D := D) (ci := 5) (v := .int (nI 0)) (ty := .int) (C := R_M) (T := F_M) (N := 26) hx hb hts wl_M t_M t_M_ok n_M hown hK hP hD hS 0 rfl rfl 6 (by decide) (hts _ wf_M_63) (fun _ h9 => h9) rfl (by decide +kernel) rfl rfl (Nat.le_of_ble_eq_true rfl) d_M_take_62 (fun H locs hP hD hS => ?_)
      have hP : va_P D cls (mW cI cZ qm mp mt ml mc mf me mg mh mu (cd) (nI k) (nI n) (nI (pn - t)) (nI 0) (ep) (nI (M.1)) (M.2.2.1) (M.2.2.2) (wi) (jb) (fp) (tf) (tt) (fi) (ln) (bx) (1000) ((tq_f t pn (tk, pr)).2) (1000) ((tq_f t pn (tk, pr)).1) (8) (le) (576) (co) (576) (fr) (10) (em) (192) (M.2.1) (10) (nb) (10) (su)) H := hP
      have hD : va_D A (mW cI cZ qm mp mt ml mc mf me mg mh mu (cd) (nI k) (nI n) (nI (pn - t)) (nI 0) (ep) (nI (M.1)) (M.2.2.1) (M.2.2.2) (wi) (jb) (fp) (tf) (tt) (fi) (ln) (bx) (1000) ((tq_f t pn (tk, pr)).2) (1000) ((tq_f t pn (tk, pr)).1) (8) (le) (576) (co) (576) (fr) (10) (em) (192) (M.2.1) (10) (nb) (10) (su)) := hD
      exact sd_vret hx hb hr hlk hP hS (Nat.le_of_ble_eq_true rfl) (Nat.le_of_ble_eq_true rfl) d_M_take_65
    · skip
      rw [nI_leI (by omega) (by omega)] at hc7
      refine lv_iload_n hx hb d_M_take_10 rfl (lv_at hl 2 rfl) ?_
      refine lv_iload_n hx hb d_M_take_11 rfl (lv_at hl 1 rfl) ?_
      refine lv_icmp_ge (tgt := 30) hx hb d_M_take_12 rfl (fun hc12 => ?_) (fun hc12 => ?_)
      · skip
        rw [nI_leI (by omega) (by omega)] at hc12
        have hq9 : tq_f t (j + 1) (tk, pr) = ((tq_f t j (tk, pr)).1, upd (tq_f t j (tk, pr)).2 (j - t) ((tq_f t j (tk, pr)).2 j)) := if_neg (by omega)
        refine lv_aload_n hx hb d_M_take_30 rfl (lv_at hl 0 rfl) ?_
        refine va_get (D := D) (ci := 5) (v := .ref mp) (C := R_M) (T := F_M) (N := 26) hx hb hts wl_M hown hK hP 0 rfl rfl 4 (by decide) (hts _ wf_M_7) (fun _ h9 => h9) rfl d_M_take_31 ?_
        refine lv_iload_n hx hb d_M_take_34 rfl (lv_at hl 2 rfl) ?_
        refine lv_iload_n hx hb d_M_take_35 rfl (lv_at hl 1 rfl) ?_
        refine lv_isub hx hb d_M_take_36 ?_
        refine sd_top (y := nI (j - t)) (pk_sub (by omega)) ?_
        refine lv_aload_n hx hb d_M_take_37 rfl (lv_at hl 0 rfl) ?_
        refine va_get (D := D) (ci := 5) (v := .ref mp) (C := R_M) (T := F_M) (N := 26) hx hb hts wl_M hown hK hP 0 rfl rfl 4 (by decide) (hts _ wf_M_7) (fun _ h9 => h9) rfl d_M_take_38 ?_
        refine lv_iload_n hx hb d_M_take_41 rfl (lv_at hl 2 rfl) ?_
        refine sd_iald (j := j) hx hb hK hP 1 0 rfl rfl (by omega) (by omega) d_M_take_42 ?_
        refine sd_iast (j := j - t) hx hb hK hP hD hS 1 0 rfl rfl (by omega) (by omega) d_M_take_43 (fun H locs hP hD hS => ?_)
        have hP : va_P D cls (mW cI cZ qm mp mt ml mc mf me mg mh mu (cd) (nI k) (nI n) (nI (pn)) (nI (nx)) (ep) (nI (M.1)) (M.2.2.1) (M.2.2.2) (wi) (jb) (fp) (tf) (tt) (fi) (ln) (bx) (1000) (upd ((tq_f t j (tk, pr)).2) (j - t) (((tq_f t j (tk, pr)).2) (j))) (1000) ((tq_f t j (tk, pr)).1) (8) (le) (576) (co) (576) (fr) (10) (em) (192) (M.2.1) (10) (nb) (10) (su)) H := hP
        have hD : va_D A (mW cI cZ qm mp mt ml mc mf me mg mh mu (cd) (nI k) (nI n) (nI (pn)) (nI (nx)) (ep) (nI (M.1)) (M.2.2.1) (M.2.2.2) (wi) (jb) (fp) (tf) (tt) (fi) (ln) (bx) (1000) (upd ((tq_f t j (tk, pr)).2) (j - t) (((tq_f t j (tk, pr)).2) (j))) (1000) ((tq_f t j (tk, pr)).1) (8) (le) (576) (co) (576) (fr) (10) (em) (192) (M.2.1) (10) (nb) (10) (su)) := hD
        refine lv_iinc hx hb d_M_take_44 hl (k := 2) rfl (v := nI (j + 1)) (ii_1 _) (Nat.le_of_ble_eq_true rfl) (lv' := [(2, .int (nI (j + 1))), (0, .ref qm), (1, .int (nI t))]) rfl (fun ls hl => ?_)
        refine lv_goto (tgt := 2) hx hb d_M_take_47 rfl ?_
        have hl := lv_sub hl (l' := [(0, .ref qm), (1, .int (nI t)), (2, .int (nI (j + 1)))]) [1, 2, 0] rfl
        exact ih2 _ (by omega) (j + 1) ls _ _ rfl (by omega) hl (by rw [hq9]; exact hP) (by rw [hq9]; exact hD) hS
      · skip
        rw [nI_leI (by omega) (by omega)] at hc12
        have hq9 : tq_f t (j + 1) (tk, pr) = (upd (tq_f t j (tk, pr)).1 j ((tq_f t j (tk, pr)).2 j), (tq_f t j (tk, pr)).2) := if_pos (by omega)
        refine lv_aload_n hx hb d_M_take_15 rfl (lv_at hl 0 rfl) ?_
        refine va_get (D := D) (ci := 5) (v := .ref mt) (C := R_M) (T := F_M) (N := 26) hx hb hts wl_M hown hK hP 0 rfl rfl 5 (by decide) (hts _ wf_M_13) (fun _ h9 => h9) rfl d_M_take_16 ?_
        refine lv_iload_n hx hb d_M_take_19 rfl (lv_at hl 2 rfl) ?_
        refine lv_aload_n hx hb d_M_take_20 rfl (lv_at hl 0 rfl) ?_
        refine va_get (D := D) (ci := 5) (v := .ref mp) (C := R_M) (T := F_M) (N := 26) hx hb hts wl_M hown hK hP 0 rfl rfl 4 (by decide) (hts _ wf_M_7) (fun _ h9 => h9) rfl d_M_take_21 ?_
        refine lv_iload_n hx hb d_M_take_24 rfl (lv_at hl 2 rfl) ?_
        refine sd_iald (j := j) hx hb hK hP 1 0 rfl rfl (by omega) (by omega) d_M_take_25 ?_
        refine sd_iast (j := j) hx hb hK hP hD hS 2 0 rfl rfl (by omega) (by omega) d_M_take_26 (fun H locs hP hD hS => ?_)
        have hP : va_P D cls (mW cI cZ qm mp mt ml mc mf me mg mh mu (cd) (nI k) (nI n) (nI (pn)) (nI (nx)) (ep) (nI (M.1)) (M.2.2.1) (M.2.2.2) (wi) (jb) (fp) (tf) (tt) (fi) (ln) (bx) (1000) ((tq_f t j (tk, pr)).2) (1000) (upd ((tq_f t j (tk, pr)).1) (j) (((tq_f t j (tk, pr)).2) (j))) (8) (le) (576) (co) (576) (fr) (10) (em) (192) (M.2.1) (10) (nb) (10) (su)) H := hP
        have hD : va_D A (mW cI cZ qm mp mt ml mc mf me mg mh mu (cd) (nI k) (nI n) (nI (pn)) (nI (nx)) (ep) (nI (M.1)) (M.2.2.1) (M.2.2.2) (wi) (jb) (fp) (tf) (tt) (fi) (ln) (bx) (1000) ((tq_f t j (tk, pr)).2) (1000) (upd ((tq_f t j (tk, pr)).1) (j) (((tq_f t j (tk, pr)).2) (j))) (8) (le) (576) (co) (576) (fr) (10) (em) (192) (M.2.1) (10) (nb) (10) (su)) := hD
        refine lv_goto (tgt := 44) hx hb d_M_take_27 rfl ?_
        refine lv_iinc hx hb d_M_take_44 hl (k := 2) rfl (v := nI (j + 1)) (ii_1 _) (Nat.le_of_ble_eq_true rfl) (lv' := [(2, .int (nI (j + 1))), (0, .ref qm), (1, .int (nI t))]) rfl (fun ls hl => ?_)
        refine lv_goto (tgt := 2) hx hb d_M_take_47 rfl ?_
        have hl := lv_sub hl (l' := [(0, .ref qm), (1, .int (nI t)), (2, .int (nI (j + 1)))]) [1, 2, 0] rfl
        exact ih2 _ (by omega) (j + 1) ls _ _ rfl (by omega) hl (by rw [hq9]; exact hP) (by rw [hq9]; exact hD) hS
  exact loop2 _ (0) ls _ _ rfl (Nat.zero_le _) hl hP hD hS
set_option maxHeartbeats 4000000 in
set_option maxRecDepth 100000 in
theorem c_M_valueAt_f (l : Launch) (D : va_G) (cI cZ cQ : ClassId) (qm : Nat) (mp : Nat) (mt : Nat) (ml : Nat) (mc : Nat) (mf : Nat) (me : Nat) (mg : Nat) (mh : Nat) (mu : Nat) (k : Nat) (n : Nat) (pn : Nat) (nx : Nat) (cd : Int32) (ep : Int32) (M : mm_T) (wi : Int32) (jb : Int32) (fp : Int32) (tf : Int32) (tt : Int32) (fi : Int32) (ln : Int32) (bx : Int32) (pr : Nat → Int32) (tk : Nat → Int32) (le : Nat → Int32) (co : Nat → Int32) (fr : Nat → Int32) (em : Nat → Int32) (nb : Nat → Int32) (su : Nat → Int32) (o : Nat) (cb : Nat → BitVec 8) (y : BitVec 8) (hk : k ≤ 9) (hn : n ≤ 9) (ho : o + k ≤ 576) (hco : ∀ j, j < k → fr (o + j) = bI (cb j)) : sd_I l D (tyL cI cZ cQ) y_M_valueAt b_M_valueAt 6 (.int) ({ frames := 1, cells := 0, slots := 0, locals := 23 }) [.ref qm, .ref mf, .int (nI o), .int (bI y)] (mW cI cZ qm mp mt ml mc mf me mg mh mu (cd) (nI k) (nI n) (nI (pn)) (nI (nx)) (ep) (nI (M.1)) (M.2.2.1) (M.2.2.2) (wi) (jb) (fp) (tf) (tt) (fi) (ln) (bx) (1000) (pr) (1000) (tk) (8) (le) (576) (co) (576) (fr) (10) (em) (192) (M.2.1) (10) (nb) (10) (su)) (bI (gf_h cb y k 0#8)) (mW cI cZ qm mp mt ml mc mf me mg mh mu (cd) (nI k) (nI n) (nI (pn)) (nI (nx)) (ep) (nI (M.1)) (M.2.2.1) (M.2.2.2) (wi) (jb) (fp) (tf) (tt) (fi) (ln) (bx) (1000) (pr) (1000) (tk) (8) (le) (576) (co) (576) (fr) (10) (em) (192) (M.2.1) (10) (nb) (10) (su)) := by
  refine sd_ofI (by decide) (Nat.le_of_ble_eq_true rfl) ?_
  intro p e s m below meth c A ls hx hb hr hml hlk hown hts hK hP hD hA hS hl
  have hl : lv_has ls 6 [(0, .ref qm), (1, .ref mf), (2, .int (nI o)), (3, .int (bI y))] := hl
  refine lv_iconst (v := 0) hx hb d_M_valueAt_0 (by decide) ?_
  refine sd_top (y := bI 0#8) (bI_0.symm) ?_
  refine lv_istore hx hb d_M_valueAt_1 hl (Nat.le_of_ble_eq_true rfl) (lv' := [(4, .int (bI 0#8)), (0, .ref qm), (1, .ref mf), (2, .int (nI o)), (3, .int (bI y))]) rfl (fun ls hl => ?_)
  refine lv_aload_n hx hb d_M_valueAt_3 rfl (lv_at hl 1 rfl) ?_
  refine va_get (D := D) (ci := 5) (v := .int (nI k)) (C := R_M) (T := F_M) (N := 26) hx hb hts wl_M hown hK hP 0 rfl rfl 1 (by decide) (hts _ wf_M_48) (fun _ h9 => h9) rfl d_M_valueAt_4 ?_
  refine lv_iconst (v := 1) hx hb d_M_valueAt_7 (by decide) ?_
  refine lv_isub hx hb d_M_valueAt_8 ?_
  refine lv_istore hx hb d_M_valueAt_9 hl (Nat.le_of_ble_eq_true rfl) (lv' := [(5, .int ((nI k) - (1))), (4, .int (bI 0#8)), (0, .ref qm), (1, .ref mf), (2, .int (nI o)), (3, .int (bI y))]) rfl (fun ls hl => ?_)
  have hl := lv_sub hl (l' := [(0, .ref qm), (1, .ref mf), (2, .int (nI o)), (3, .int (bI y)), (4, .int (bI 0#8)), (5, .int ((nI k) - (1)))]) [2, 3, 4, 5, 1, 0] rfl
  have loop11 : ∀ (d : Nat) (i : Nat) (v : BitVec 8) (ls : Array Slot) (H : Heap) (locs : List Loc), i = d → (i ≤ k) → (gf_h cb y i v = gf_h cb y k 0#8) → lv_has ls 6 [(0, .ref qm), (1, .ref mf), (2, .int (nI o)), (3, .int (bI y)), (4, .int (bI v)), (5, .int (nI (i) - 1))] → va_P D cls (mW cI cZ qm mp mt ml mc mf me mg mh mu (cd) (nI k) (nI n) (nI (pn)) (nI (nx)) (ep) (nI (M.1)) (M.2.2.1) (M.2.2.2) (wi) (jb) (fp) (tf) (tt) (fi) (ln) (bx) (1000) (pr) (1000) (tk) (8) (le) (576) (co) (576) (fr) (10) (em) (192) (M.2.1) (10) (nb) (10) (su)) H → va_D A (mW cI cZ qm mp mt ml mc mf me mg mh mu (cd) (nI k) (nI n) (nI (pn)) (nI (nx)) (ep) (nI (M.1)) (M.2.2.1) (M.2.2.2) (wi) (jb) (fp) (tf) (tt) (fi) (ln) (bx) (1000) (pr) (1000) (tk) (8) (le) (576) (co) (576) (fr) (10) (em) (192) (M.2.1) (10) (nb) (10) (su)) → va_S A s.heap H locs → W p l e ({ frames := 1, cells := 0, slots := 0, locals := 23 }) s m ([.ref qm, .ref mf, .int (nI o), .int (bI y)] : List Value).toArray below meth c H locs 0 0 (MQ below (sd_qi D (bI (gf_h cb y k 0#8)) (mW cI cZ qm mp mt ml mc mf me mg mh mu (cd) (nI k) (nI n) (nI (pn)) (nI (nx)) (ep) (nI (M.1)) (M.2.2.1) (M.2.2.2) (wi) (jb) (fp) (tf) (tt) (fi) (ln) (bx) (1000) (pr) (1000) (tk) (8) (le) (576) (co) (576) (fr) (10) (em) (192) (M.2.1) (10) (nb) (10) (su)) A) ([.ref qm, .ref mf, .int (nI o), .int (bI y)] : List Value).toArray s 0 0 A) (F0 m 11 ls []) := by
    intro d
    induction d using Nat.strongRecOn with
    | _ d ih11 =>
    intro i v ls H locs hd hin hv hl hP hD hS
    subst hd
    refine lv_iload hx hb d_M_valueAt_11 (lv_at hl 5 rfl) ?_
    refine lv_if_lt (tgt := 37) hx hb d_M_valueAt_13 rfl (fun hc13 => ?_) (fun hc13 => ?_)
    · skip
      have hi0 : i = 0 := (nI_p1 (by omega)).mp hc13
      subst hi0
      refine lv_iload hx hb d_M_valueAt_37 (lv_at hl 4 rfl) ?_
      exact sd_iret hx hb hr hlk hP hS (Nat.le_of_ble_eq_true rfl) (Nat.le_of_ble_eq_true rfl) (by rw [← hv]; rfl) d_M_valueAt_39
    · skip
      have hne : i ≠ 0 := fun h => hc13 ((nI_p1 (by omega)).mpr h)
      obtain ⟨i, rfl⟩ : ∃ z, i = z + 1 := ⟨i - 1, by omega⟩
      rw [nI_pred i] at hl
      refine lv_iload hx hb d_M_valueAt_16 (lv_at hl 4 rfl) ?_
      refine lv_iload_n hx hb d_M_valueAt_18 rfl (lv_at hl 3 rfl) ?_
      refine sd_callSI (As := [.int (bI v), .int (bI y)]) (rest := []) (cx := []) (w1 := []) (c_M_product l D cI cZ cQ (v) (y)) ⟨wc_M_product, wm_M_54, wi_M, by decide, by decide, show (parseMethodDescriptor y_M_product.desc).map (fun d => d.parameters.length) = some 2 by decide +kernel⟩ ws_M_product hx hb hml hown hts hl.1 ⟨Nat.le_of_ble_eq_true rfl, Nat.le_of_ble_eq_true rfl⟩ ⟨Nat.le_of_ble_eq_true rfl, Nat.le_of_ble_eq_true rfl⟩ hK hP hD hS hA [] rfl (by decide) rfl rfl rfl (Nat.le_of_ble_eq_true rfl) d_M_valueAt_19 (fun H locs hP hD hS => ?_)
      have hP : va_P D cls (mW cI cZ qm mp mt ml mc mf me mg mh mu (cd) (nI k) (nI n) (nI (pn)) (nI (nx)) (ep) (nI (M.1)) (M.2.2.1) (M.2.2.2) (wi) (jb) (fp) (tf) (tt) (fi) (ln) (bx) (1000) (pr) (1000) (tk) (8) (le) (576) (co) (576) (fr) (10) (em) (192) (M.2.1) (10) (nb) (10) (su)) H := hP
      have hD : va_D A (mW cI cZ qm mp mt ml mc mf me mg mh mu (cd) (nI k) (nI n) (nI (pn)) (nI (nx)) (ep) (nI (M.1)) (M.2.2.1) (M.2.2.2) (wi) (jb) (fp) (tf) (tt) (fi) (ln) (bx) (1000) (pr) (1000) (tk) (8) (le) (576) (co) (576) (fr) (10) (em) (192) (M.2.1) (10) (nb) (10) (su)) := hD
      refine lv_aload_n hx hb d_M_valueAt_22 rfl (lv_at hl 1 rfl) ?_
      refine lv_iload_n hx hb d_M_valueAt_23 rfl (lv_at hl 2 rfl) ?_
      refine lv_iload hx hb d_M_valueAt_24 (lv_at hl 5 rfl) ?_
      refine lv_iadd hx hb d_M_valueAt_26 ?_
      refine sd_top (y := nI (o + i)) (nI_add _ _) ?_
      refine sd_iald (j := o + i) hx hb hK hP 5 0 rfl rfl (by omega) (by omega) d_M_valueAt_27 ?_
      refine sd_top (y := bI (cb i)) (hco i (by omega)) ?_
      refine lv_ixor hx hb d_M_valueAt_28 ?_
      refine sd_top (y := bI (gf_m v y ^^^ cb i)) (bI_xor _ _) ?_
      refine lv_istore hx hb d_M_valueAt_29 hl (Nat.le_of_ble_eq_true rfl) (lv' := [(4, .int (bI (gf_m v y ^^^ cb i))), (0, .ref qm), (1, .ref mf), (2, .int (nI o)), (3, .int (bI y)), (5, .int (nI (i)))]) rfl (fun ls hl => ?_)
      refine lv_iinc hx hb d_M_valueAt_31 hl (k := 5) rfl (v := nI (i) - 1) (ii_sub _) (Nat.le_of_ble_eq_true rfl) (lv' := [(5, .int (nI (i) - 1)), (4, .int (bI (gf_m v y ^^^ cb i))), (0, .ref qm), (1, .ref mf), (2, .int (nI o)), (3, .int (bI y))]) rfl (fun ls hl => ?_)
      refine lv_goto (tgt := 11) hx hb d_M_valueAt_34 rfl ?_
      have hl := lv_sub hl (l' := [(0, .ref qm), (1, .ref mf), (2, .int (nI o)), (3, .int (bI y)), (4, .int (bI (gf_m v y ^^^ cb i))), (5, .int (nI (i) - 1))]) [2, 3, 4, 5, 1, 0] rfl
      exact ih11 _ (by omega) (i) _ ls _ _ rfl (by omega) (hv) hl hP hD hS
  exact loop11 _ (k) (0#8) ls _ _ rfl (Nat.le_refl k) (rfl) hl hP hD hS
set_option maxHeartbeats 4000000 in
set_option maxRecDepth 100000 in
theorem c_M_valueAt_c (l : Launch) (D : va_G) (cI cZ cQ : ClassId) (qm : Nat) (mp : Nat) (mt : Nat) (ml : Nat) (mc : Nat) (mf : Nat) (me : Nat) (mg : Nat) (mh : Nat) (mu : Nat) (k : Nat) (n : Nat) (pn : Nat) (nx : Nat) (cd : Int32) (ep : Int32) (M : mm_T) (wi : Int32) (jb : Int32) (fp : Int32) (tf : Int32) (tt : Int32) (fi : Int32) (ln : Int32) (bx : Int32) (pr : Nat → Int32) (tk : Nat → Int32) (le : Nat → Int32) (co : Nat → Int32) (fr : Nat → Int32) (em : Nat → Int32) (nb : Nat → Int32) (su : Nat → Int32) (o : Nat) (cb : Nat → BitVec 8) (y : BitVec 8) (hk : k ≤ 9) (hn : n ≤ 9) (ho : o + k ≤ 576) (hco : ∀ j, j < k → co (o + j) = bI (cb j)) : sd_I l D (tyL cI cZ cQ) y_M_valueAt b_M_valueAt 6 (.int) ({ frames := 1, cells := 0, slots := 0, locals := 23 }) [.ref qm, .ref mc, .int (nI o), .int (bI y)] (mW cI cZ qm mp mt ml mc mf me mg mh mu (cd) (nI k) (nI n) (nI (pn)) (nI (nx)) (ep) (nI (M.1)) (M.2.2.1) (M.2.2.2) (wi) (jb) (fp) (tf) (tt) (fi) (ln) (bx) (1000) (pr) (1000) (tk) (8) (le) (576) (co) (576) (fr) (10) (em) (192) (M.2.1) (10) (nb) (10) (su)) (bI (gf_h cb y k 0#8)) (mW cI cZ qm mp mt ml mc mf me mg mh mu (cd) (nI k) (nI n) (nI (pn)) (nI (nx)) (ep) (nI (M.1)) (M.2.2.1) (M.2.2.2) (wi) (jb) (fp) (tf) (tt) (fi) (ln) (bx) (1000) (pr) (1000) (tk) (8) (le) (576) (co) (576) (fr) (10) (em) (192) (M.2.1) (10) (nb) (10) (su)) := by
  refine sd_ofI (by decide) (Nat.le_of_ble_eq_true rfl) ?_
  intro p e s m below meth c A ls hx hb hr hml hlk hown hts hK hP hD hA hS hl
  have hl : lv_has ls 6 [(0, .ref qm), (1, .ref mc), (2, .int (nI o)), (3, .int (bI y))] := hl
  refine lv_iconst (v := 0) hx hb d_M_valueAt_0 (by decide) ?_
  refine sd_top (y := bI 0#8) (bI_0.symm) ?_
  refine lv_istore hx hb d_M_valueAt_1 hl (Nat.le_of_ble_eq_true rfl) (lv' := [(4, .int (bI 0#8)), (0, .ref qm), (1, .ref mc), (2, .int (nI o)), (3, .int (bI y))]) rfl (fun ls hl => ?_)
  refine lv_aload_n hx hb d_M_valueAt_3 rfl (lv_at hl 1 rfl) ?_
  refine va_get (D := D) (ci := 5) (v := .int (nI k)) (C := R_M) (T := F_M) (N := 26) hx hb hts wl_M hown hK hP 0 rfl rfl 1 (by decide) (hts _ wf_M_48) (fun _ h9 => h9) rfl d_M_valueAt_4 ?_
  refine lv_iconst (v := 1) hx hb d_M_valueAt_7 (by decide) ?_
  refine lv_isub hx hb d_M_valueAt_8 ?_
  refine lv_istore hx hb d_M_valueAt_9 hl (Nat.le_of_ble_eq_true rfl) (lv' := [(5, .int ((nI k) - (1))), (4, .int (bI 0#8)), (0, .ref qm), (1, .ref mc), (2, .int (nI o)), (3, .int (bI y))]) rfl (fun ls hl => ?_)
  have hl := lv_sub hl (l' := [(0, .ref qm), (1, .ref mc), (2, .int (nI o)), (3, .int (bI y)), (4, .int (bI 0#8)), (5, .int ((nI k) - (1)))]) [2, 3, 4, 5, 1, 0] rfl
  have loop11 : ∀ (d : Nat) (i : Nat) (v : BitVec 8) (ls : Array Slot) (H : Heap) (locs : List Loc), i = d → (i ≤ k) → (gf_h cb y i v = gf_h cb y k 0#8) → lv_has ls 6 [(0, .ref qm), (1, .ref mc), (2, .int (nI o)), (3, .int (bI y)), (4, .int (bI v)), (5, .int (nI (i) - 1))] → va_P D cls (mW cI cZ qm mp mt ml mc mf me mg mh mu (cd) (nI k) (nI n) (nI (pn)) (nI (nx)) (ep) (nI (M.1)) (M.2.2.1) (M.2.2.2) (wi) (jb) (fp) (tf) (tt) (fi) (ln) (bx) (1000) (pr) (1000) (tk) (8) (le) (576) (co) (576) (fr) (10) (em) (192) (M.2.1) (10) (nb) (10) (su)) H → va_D A (mW cI cZ qm mp mt ml mc mf me mg mh mu (cd) (nI k) (nI n) (nI (pn)) (nI (nx)) (ep) (nI (M.1)) (M.2.2.1) (M.2.2.2) (wi) (jb) (fp) (tf) (tt) (fi) (ln) (bx) (1000) (pr) (1000) (tk) (8) (le) (576) (co) (576) (fr) (10) (em) (192) (M.2.1) (10) (nb) (10) (su)) → va_S A s.heap H locs → W p l e ({ frames := 1, cells := 0, slots := 0, locals := 23 }) s m ([.ref qm, .ref mc, .int (nI o), .int (bI y)] : List Value).toArray below meth c H locs 0 0 (MQ below (sd_qi D (bI (gf_h cb y k 0#8)) (mW cI cZ qm mp mt ml mc mf me mg mh mu (cd) (nI k) (nI n) (nI (pn)) (nI (nx)) (ep) (nI (M.1)) (M.2.2.1) (M.2.2.2) (wi) (jb) (fp) (tf) (tt) (fi) (ln) (bx) (1000) (pr) (1000) (tk) (8) (le) (576) (co) (576) (fr) (10) (em) (192) (M.2.1) (10) (nb) (10) (su)) A) ([.ref qm, .ref mc, .int (nI o), .int (bI y)] : List Value).toArray s 0 0 A) (F0 m 11 ls []) := by
    intro d
    induction d using Nat.strongRecOn with
    | _ d ih11 =>
    intro i v ls H locs hd hin hv hl hP hD hS
    subst hd
    refine lv_iload hx hb d_M_valueAt_11 (lv_at hl 5 rfl) ?_
    refine lv_if_lt (tgt := 37) hx hb d_M_valueAt_13 rfl (fun hc13 => ?_) (fun hc13 => ?_)
    · skip
      have hi0 : i = 0 := (nI_p1 (by omega)).mp hc13
      subst hi0
      refine lv_iload hx hb d_M_valueAt_37 (lv_at hl 4 rfl) ?_
      exact sd_iret hx hb hr hlk hP hS (Nat.le_of_ble_eq_true rfl) (Nat.le_of_ble_eq_true rfl) (by rw [← hv]; rfl) d_M_valueAt_39
    · skip
      have hne : i ≠ 0 := fun h => hc13 ((nI_p1 (by omega)).mpr h)
      obtain ⟨i, rfl⟩ : ∃ z, i = z + 1 := ⟨i - 1, by omega⟩
      rw [nI_pred i] at hl
      refine lv_iload hx hb d_M_valueAt_16 (lv_at hl 4 rfl) ?_
      refine lv_iload_n hx hb d_M_valueAt_18 rfl (lv_at hl 3 rfl) ?_
      refine sd_callSI (As := [.int (bI v), .int (bI y)]) (rest := []) (cx := []) (w1 := []) (c_M_product l D cI cZ cQ (v) (y)) ⟨wc_M_product, wm_M_54, wi_M, by decide, by decide, show (parseMethodDescriptor y_M_product.desc).map (fun d => d.parameters.length) = some 2 by decide +kernel⟩ ws_M_product hx hb hml hown hts hl.1 ⟨Nat.le_of_ble_eq_true rfl, Nat.le_of_ble_eq_true rfl⟩ ⟨Nat.le_of_ble_eq_true rfl, Nat.le_of_ble_eq_true rfl⟩ hK hP hD hS hA [] rfl (by decide) rfl rfl rfl (Nat.le_of_ble_eq_true rfl) d_M_valueAt_19 (fun H locs hP hD hS => ?_)
      have hP : va_P D cls (mW cI cZ qm mp mt ml mc mf me mg mh mu (cd) (nI k) (nI n) (nI (pn)) (nI (nx)) (ep) (nI (M.1)) (M.2.2.1) (M.2.2.2) (wi) (jb) (fp) (tf) (tt) (fi) (ln) (bx) (1000) (pr) (1000) (tk) (8) (le) (576) (co) (576) (fr) (10) (em) (192) (M.2.1) (10) (nb) (10) (su)) H := hP
      have hD : va_D A (mW cI cZ qm mp mt ml mc mf me mg mh mu (cd) (nI k) (nI n) (nI (pn)) (nI (nx)) (ep) (nI (M.1)) (M.2.2.1) (M.2.2.2) (wi) (jb) (fp) (tf) (tt) (fi) (ln) (bx) (1000) (pr) (1000) (tk) (8) (le) (576) (co) (576) (fr) (10) (em) (192) (M.2.1) (10) (nb) (10) (su)) := hD
      refine lv_aload_n hx hb d_M_valueAt_22 rfl (lv_at hl 1 rfl) ?_
      refine lv_iload_n hx hb d_M_valueAt_23 rfl (lv_at hl 2 rfl) ?_
      refine lv_iload hx hb d_M_valueAt_24 (lv_at hl 5 rfl) ?_
      refine lv_iadd hx hb d_M_valueAt_26 ?_
      refine sd_top (y := nI (o + i)) (nI_add _ _) ?_
      refine sd_iald (j := o + i) hx hb hK hP 4 0 rfl rfl (by omega) (by omega) d_M_valueAt_27 ?_
      refine sd_top (y := bI (cb i)) (hco i (by omega)) ?_
      refine lv_ixor hx hb d_M_valueAt_28 ?_
      refine sd_top (y := bI (gf_m v y ^^^ cb i)) (bI_xor _ _) ?_
      refine lv_istore hx hb d_M_valueAt_29 hl (Nat.le_of_ble_eq_true rfl) (lv' := [(4, .int (bI (gf_m v y ^^^ cb i))), (0, .ref qm), (1, .ref mc), (2, .int (nI o)), (3, .int (bI y)), (5, .int (nI (i)))]) rfl (fun ls hl => ?_)
      refine lv_iinc hx hb d_M_valueAt_31 hl (k := 5) rfl (v := nI (i) - 1) (ii_sub _) (Nat.le_of_ble_eq_true rfl) (lv' := [(5, .int (nI (i) - 1)), (4, .int (bI (gf_m v y ^^^ cb i))), (0, .ref qm), (1, .ref mc), (2, .int (nI o)), (3, .int (bI y))]) rfl (fun ls hl => ?_)
      refine lv_goto (tgt := 11) hx hb d_M_valueAt_34 rfl ?_
      have hl := lv_sub hl (l' := [(0, .ref qm), (1, .ref mc), (2, .int (nI o)), (3, .int (bI y)), (4, .int (bI (gf_m v y ^^^ cb i))), (5, .int (nI (i) - 1))]) [2, 3, 4, 5, 1, 0] rfl
      exact ih11 _ (by omega) (i) _ ls _ _ rfl (by omega) (hv) hl hP hD hS
  exact loop11 _ (k) (0#8) ls _ _ rfl (Nat.le_refl k) (rfl) hl hP hD hS
set_option maxHeartbeats 4000000 in
set_option maxRecDepth 100000 in
theorem c_M_deal (l : Launch) (D : va_G) (cI cZ cQ : ClassId) (qm : Nat) (mp : Nat) (mt : Nat) (ml : Nat) (mc : Nat) (mf : Nat) (me : Nat) (mg : Nat) (mh : Nat) (mu : Nat) (k : Nat) (n : Nat) (pn : Nat) (nx : Nat) (cd : Int32) (ep : Int32) (M : mm_T) (wi : Int32) (jb : Int32) (fp : Int32) (tf : Int32) (tt : Int32) (fi : Int32) (ln : Int32) (bx : Int32) (pr : Nat → Int32) (tk : Nat → Int32) (le : Nat → Int32) (co : Nat → Int32) (fr : Nat → Int32) (em : Nat → Int32) (nb : Nat → Int32) (su : Nat → Int32) (f : Nat) (b : Nat) (fb : Nat → BitVec 8) (tb : Nat → BitVec 8) (hk : k ≤ 9) (hn : n ≤ 9) (hf8 : f < 8) (hb8 : b < 8) (hk1 : 1 ≤ k) (hnx : nx + (k - 1) ≤ 1000) (hfr : ∀ j, j < k → fr (9 * (8 * f + b) + j) = bI (fb j)) (htk : ∀ i, i < 1000 → tk i = bI (tb i)) (hT : M.1 + n < 2 ^ 31) : sd_V l D (tyL cI cZ cQ) y_M_deal b_M_deal 5 ({ frames := 2, cells := 0, slots := 0, locals := 48 }) [.ref qm, .int (nI f), .int (nI b)] (mW cI cZ qm mp mt ml mc mf me mg mh mu (cd) (nI k) (nI n) (nI (pn)) (nI (nx)) (ep) (nI (M.1)) (M.2.2.1) (M.2.2.2) (wi) (jb) (fp) (tf) (tt) (fi) (ln) (bx) (1000) (pr) (1000) (tk) (8) (le) (576) (co) (576) (fr) (10) (em) (192) (M.2.1) (10) (nb) (10) (su)) (mW cI cZ qm mp mt ml mc mf me mg mh mu (cd) (nI k) (nI n) (nI (pn)) (nI (nx + (k - 1))) (ep) (nI ((ds_f (fun i => gf_h (dm_f fb tb nx) (BitVec.ofNat 8 i) k 0#8) n M).1)) ((ds_f (fun i => gf_h (dm_f fb tb nx) (BitVec.ofNat 8 i) k 0#8) n M).2.2.1) ((ds_f (fun i => gf_h (dm_f fb tb nx) (BitVec.ofNat 8 i) k 0#8) n M).2.2.2) (wi) (jb) (fp) (tf) (tt) (fi) (ln) (bx) (1000) (pr) (1000) (tk) (8) (le) (576) (co) (576) (dl_f tk (9 * (8 * f + b)) nx (k - 1) fr) (10) (em) (192) ((ds_f (fun i => gf_h (dm_f fb tb nx) (BitVec.ofNat 8 i) k 0#8) n M).2.1) (10) (nb) (10) (su)) := by
  refine sd_ofV (by decide) (Nat.le_of_ble_eq_true rfl) ?_
  intro p e s m below meth c A ls hx hb hr hml hlk hown hts hK hP hD hA hS hl
  have hl : lv_has ls 5 [(0, .ref qm), (1, .int (nI f)), (2, .int (nI b))] := hl
  refine lv_bipush (v := nI 9) hx hb d_M_deal_0 (by decide) ?_
  refine lv_bipush (v := nI 8) hx hb d_M_deal_2 (by decide) ?_
  refine lv_iload_n hx hb d_M_deal_4 rfl (lv_at hl 1 rfl) ?_
  refine lv_imul hx hb d_M_deal_5 ?_
  refine sd_top (y := nI (8 * f)) (pk_mul _ _) ?_
  refine lv_iload_n hx hb d_M_deal_6 rfl (lv_at hl 2 rfl) ?_
  refine lv_iadd hx hb d_M_deal_7 ?_
  refine sd_top (y := nI (8 * f + b)) (nI_add _ _) ?_
  refine lv_imul hx hb d_M_deal_8 ?_
  refine sd_top (y := nI (9 * (8 * f + b))) (pk_mul _ _) ?_
  refine lv_istore_n hx hb d_M_deal_9 rfl hl (Nat.le_of_ble_eq_true rfl) (lv' := [(3, .int (nI (9 * (8 * f + b)))), (0, .ref qm), (1, .int (nI f)), (2, .int (nI b))]) rfl (fun ls hl => ?_)
  refine lv_iconst (v := 1) hx hb d_M_deal_10 (by decide) ?_
  refine sd_top (y := nI (0 + 1)) (rfl) ?_
  refine lv_istore hx hb d_M_deal_11 hl (Nat.le_of_ble_eq_true rfl) (lv' := [(4, .int (nI (0 + 1))), (3, .int (nI (9 * (8 * f + b)))), (0, .ref qm), (1, .int (nI f)), (2, .int (nI b))]) rfl (fun ls hl => ?_)
  have hl := lv_sub hl (l' := [(0, .ref qm), (1, .int (nI f)), (2, .int (nI b)), (3, .int (nI (9 * (8 * f + b)))), (4, .int (nI (0 + 1)))]) [2, 3, 4, 1, 0] rfl
  have loop13 : ∀ (d : Nat) (t : Nat) (ls : Array Slot) (H : Heap) (locs : List Loc), k - t = d → (t + 1 ≤ k) → lv_has ls 5 [(0, .ref qm), (1, .int (nI f)), (2, .int (nI b)), (3, .int (nI (9 * (8 * f + b)))), (4, .int (nI (t + 1)))] → va_P D cls (mW cI cZ qm mp mt ml mc mf me mg mh mu (cd) (nI k) (nI n) (nI (pn)) (nI (nx + t)) (ep) (nI (M.1)) (M.2.2.1) (M.2.2.2) (wi) (jb) (fp) (tf) (tt) (fi) (ln) (bx) (1000) (pr) (1000) (tk) (8) (le) (576) (co) (576) (dl_f tk (9 * (8 * f + b)) nx t fr) (10) (em) (192) (M.2.1) (10) (nb) (10) (su)) H → va_D A (mW cI cZ qm mp mt ml mc mf me mg mh mu (cd) (nI k) (nI n) (nI (pn)) (nI (nx + t)) (ep) (nI (M.1)) (M.2.2.1) (M.2.2.2) (wi) (jb) (fp) (tf) (tt) (fi) (ln) (bx) (1000) (pr) (1000) (tk) (8) (le) (576) (co) (576) (dl_f tk (9 * (8 * f + b)) nx t fr) (10) (em) (192) (M.2.1) (10) (nb) (10) (su)) → va_S A s.heap H locs → W p l e ({ frames := 2, cells := 0, slots := 0, locals := 48 }) s m ([.ref qm, .int (nI f), .int (nI b)] : List Value).toArray below meth c H locs 0 0 (MQ below (sd_qv D (mW cI cZ qm mp mt ml mc mf me mg mh mu (cd) (nI k) (nI n) (nI (pn)) (nI (nx + (k - 1))) (ep) (nI ((ds_f (fun i => gf_h (dm_f fb tb nx) (BitVec.ofNat 8 i) k 0#8) n M).1)) ((ds_f (fun i => gf_h (dm_f fb tb nx) (BitVec.ofNat 8 i) k 0#8) n M).2.2.1) ((ds_f (fun i => gf_h (dm_f fb tb nx) (BitVec.ofNat 8 i) k 0#8) n M).2.2.2) (wi) (jb) (fp) (tf) (tt) (fi) (ln) (bx) (1000) (pr) (1000) (tk) (8) (le) (576) (co) (576) (dl_f tk (9 * (8 * f + b)) nx (k - 1) fr) (10) (em) (192) ((ds_f (fun i => gf_h (dm_f fb tb nx) (BitVec.ofNat 8 i) k 0#8) n M).2.1) (10) (nb) (10) (su)) A) ([.ref qm, .int (nI f), .int (nI b)] : List Value).toArray s 0 0 A) (F0 m 13 ls []) := by
    intro d
    induction d using Nat.strongRecOn with
    | _ d ih13 =>
    intro t ls H locs hd ht hl hP hD hS
    subst hd
    refine lv_iload hx hb d_M_deal_13 (lv_at hl 4 rfl) ?_
    refine lv_aload_n hx hb d_M_deal_15 rfl (lv_at hl 0 rfl) ?_
    refine va_get (D := D) (ci := 5) (v := .int (nI k)) (C := R_M) (T := F_M) (N := 26) hx hb hts wl_M hown hK hP 0 rfl rfl 1 (by decide) (hts _ wf_M_48) (fun _ h9 => h9) rfl d_M_deal_16 ?_
    refine lv_icmp_ge (tgt := 51) hx hb d_M_deal_19 rfl (fun hc19 => ?_) (fun hc19 => ?_)
    · skip
      rw [nI_leI (by omega) (by omega)] at hc19
      have ht2 : k - 1 = t := by omega
      subst ht2
      refine lv_iconst (v := 1) hx hb d_M_deal_51 (by decide) ?_
      refine sd_top (y := nI (0 + 1)) (rfl) ?_
      refine lv_istore hx hb d_M_deal_52 hl (Nat.le_of_ble_eq_true rfl) (lv' := [(4, .int (nI (0 + 1))), (0, .ref qm), (1, .int (nI f)), (2, .int (nI b)), (3, .int (nI (9 * (8 * f + b))))]) rfl (fun ls hl => ?_)
      have hl := lv_sub hl (l' := [(0, .ref qm), (1, .int (nI f)), (2, .int (nI b)), (3, .int (nI (9 * (8 * f + b)))), (4, .int (nI (0 + 1)))]) [1, 2, 3, 4, 0] rfl
      have loop54 : ∀ (d : Nat) (u : Nat) (ls : Array Slot) (H : Heap) (locs : List Loc), n - u = d → (u ≤ n) → lv_has ls 5 [(0, .ref qm), (1, .int (nI f)), (2, .int (nI b)), (3, .int (nI (9 * (8 * f + b)))), (4, .int (nI (u + 1)))] → va_P D cls (mW cI cZ qm mp mt ml mc mf me mg mh mu (cd) (nI k) (nI n) (nI (pn)) (nI (nx + (k - 1))) (ep) (nI ((ds_f (fun i => gf_h (dm_f fb tb nx) (BitVec.ofNat 8 i) k 0#8) u M).1)) ((ds_f (fun i => gf_h (dm_f fb tb nx) (BitVec.ofNat 8 i) k 0#8) u M).2.2.1) ((ds_f (fun i => gf_h (dm_f fb tb nx) (BitVec.ofNat 8 i) k 0#8) u M).2.2.2) (wi) (jb) (fp) (tf) (tt) (fi) (ln) (bx) (1000) (pr) (1000) (tk) (8) (le) (576) (co) (576) (dl_f tk (9 * (8 * f + b)) nx (k - 1) fr) (10) (em) (192) ((ds_f (fun i => gf_h (dm_f fb tb nx) (BitVec.ofNat 8 i) k 0#8) u M).2.1) (10) (nb) (10) (su)) H → va_D A (mW cI cZ qm mp mt ml mc mf me mg mh mu (cd) (nI k) (nI n) (nI (pn)) (nI (nx + (k - 1))) (ep) (nI ((ds_f (fun i => gf_h (dm_f fb tb nx) (BitVec.ofNat 8 i) k 0#8) u M).1)) ((ds_f (fun i => gf_h (dm_f fb tb nx) (BitVec.ofNat 8 i) k 0#8) u M).2.2.1) ((ds_f (fun i => gf_h (dm_f fb tb nx) (BitVec.ofNat 8 i) k 0#8) u M).2.2.2) (wi) (jb) (fp) (tf) (tt) (fi) (ln) (bx) (1000) (pr) (1000) (tk) (8) (le) (576) (co) (576) (dl_f tk (9 * (8 * f + b)) nx (k - 1) fr) (10) (em) (192) ((ds_f (fun i => gf_h (dm_f fb tb nx) (BitVec.ofNat 8 i) k 0#8) u M).2.1) (10) (nb) (10) (su)) → va_S A s.heap H locs → W p l e ({ frames := 2, cells := 0, slots := 0, locals := 48 }) s m ([.ref qm, .int (nI f), .int (nI b)] : List Value).toArray below meth c H locs 0 0 (MQ below (sd_qv D (mW cI cZ qm mp mt ml mc mf me mg mh mu (cd) (nI k) (nI n) (nI (pn)) (nI (nx + (k - 1))) (ep) (nI ((ds_f (fun i => gf_h (dm_f fb tb nx) (BitVec.ofNat 8 i) k 0#8) n M).1)) ((ds_f (fun i => gf_h (dm_f fb tb nx) (BitVec.ofNat 8 i) k 0#8) n M).2.2.1) ((ds_f (fun i => gf_h (dm_f fb tb nx) (BitVec.ofNat 8 i) k 0#8) n M).2.2.2) (wi) (jb) (fp) (tf) (tt) (fi) (ln) (bx) (1000) (pr) (1000) (tk) (8) (le) (576) (co) (576) (dl_f tk (9 * (8 * f + b)) nx (k - 1) fr) (10) (em) (192) ((ds_f (fun i => gf_h (dm_f fb tb nx) (BitVec.ofNat 8 i) k 0#8) n M).2.1) (10) (nb) (10) (su)) A) ([.ref qm, .int (nI f), .int (nI b)] : List Value).toArray s 0 0 A) (F0 m 54 ls []) := by
        intro d
        induction d using Nat.strongRecOn with
        | _ d ih54 =>
        intro u ls H locs hd hu hl hP hD hS
        subst hd
        refine lv_iload hx hb d_M_deal_54 (lv_at hl 4 rfl) ?_
        refine lv_aload_n hx hb d_M_deal_56 rfl (lv_at hl 0 rfl) ?_
        refine va_get (D := D) (ci := 5) (v := .int (nI n)) (C := R_M) (T := F_M) (N := 26) hx hb hts wl_M hown hK hP 0 rfl rfl 2 (by decide) (hts _ wf_M_45) (fun _ h9 => h9) rfl d_M_deal_57 ?_
        refine lv_icmp_gt (tgt := 87) hx hb d_M_deal_60 rfl (fun hc60 => ?_) (fun hc60 => ?_)
        · skip
          rw [nI_ltI (by omega) (by omega)] at hc60
          have hun : n = u := by omega
          subst hun
          exact sd_vret hx hb hr hlk hP hS (Nat.le_of_ble_eq_true rfl) (Nat.le_of_ble_eq_true rfl) d_M_deal_87
        · skip
          rw [nI_ltI (by omega) (by omega)] at hc60
          have hTu : (ds_f (fun i => gf_h (dm_f fb tb nx) (BitVec.ofNat 8 i) k 0#8) u M).1 < 2 ^ 31 := by
            have := ds_b (fun i => gf_h (dm_f fb tb nx) (BitVec.ofNat 8 i) k 0#8) u M
            omega
          refine lv_aload_n hx hb d_M_deal_63 rfl (lv_at hl 0 rfl) ?_
          refine lv_iconst (v := 0) hx hb d_M_deal_64 (by decide) ?_
          refine lv_iload hx hb d_M_deal_65 (lv_at hl 4 rfl) ?_
          refine lv_aload_n hx hb d_M_deal_67 rfl (lv_at hl 0 rfl) ?_
          refine lv_aload_n hx hb d_M_deal_68 rfl (lv_at hl 0 rfl) ?_
          refine va_get (D := D) (ci := 5) (v := .ref mf) (C := R_M) (T := F_M) (N := 26) hx hb hts wl_M hown hK hP 0 rfl rfl 9 (by decide) (hts _ wf_M_22) (fun _ h9 => h9) rfl d_M_deal_69 ?_
          refine lv_iload_n hx hb d_M_deal_72 rfl (lv_at hl 3 rfl) ?_
          refine lv_iload hx hb d_M_deal_73 (lv_at hl 4 rfl) ?_
          refine sd_top (y := bI (BitVec.ofNat 8 (u + 1))) (bI_of (by omega)) ?_
          refine sd_allVI (As := [.ref mf, .int (nI (9 * (8 * f + b))), .int (bI (BitVec.ofNat 8 (u + 1)))]) (rest := [.int (nI (u + 1)), .int (0), .ref qm]) (w1 := (mW cI cZ qm mp mt ml mc mf me mg mh mu (cd) (nI k) (nI n) (nI (pn)) (nI ((nx + (k - 1)))) (ep) (nI ((ds_f (fun i => gf_h (dm_f fb tb nx) (BitVec.ofNat 8 i) k 0#8) u M).1)) ((ds_f (fun i => gf_h (dm_f fb tb nx) (BitVec.ofNat 8 i) k 0#8) u M).2.2.1) ((ds_f (fun i => gf_h (dm_f fb tb nx) (BitVec.ofNat 8 i) k 0#8) u M).2.2.2) (wi) (jb) (fp) (tf) (tt) (fi) (ln) (bx) (1000) (pr) (1000) (tk) (8) (le) (576) (co) (576) (dl_f tk (9 * (8 * f + b)) nx (k - 1) fr) (10) (em) (192) ((ds_f (fun i => gf_h (dm_f fb tb nx) (BitVec.ofNat 8 i) k 0#8) u M).2.1) (10) (nb) (10) (su))) (c_M_valueAt_f l D cI cZ cQ (qm) (mp) (mt) (ml) (mc) (mf) (me) (mg) (mh) (mu) (k) (n) (pn) (nx + (k - 1)) (cd) (ep) ((ds_f (fun i => gf_h (dm_f fb tb nx) (BitVec.ofNat 8 i) k 0#8) u M)) (wi) (jb) (fp) (tf) (tt) (fi) (ln) (bx) (pr) (tk) (le) (co) (dl_f tk (9 * (8 * f + b)) nx (k - 1) fr) (em) (nb) (su) (9 * (8 * f + b)) (dm_f fb tb nx) (BitVec.ofNat 8 (u + 1)) (hk) (hn) (by omega) (dm_b hfr htk hnx hk1)) ⟨wc_M_valueAt, wm_M_77, wi_M, by decide, by decide, show (parseMethodDescriptor y_M_valueAt.desc).map (fun d => d.parameters.length) = some 3 by decide +kernel⟩ wo_M_valueAt wz_M_valueAt hx hb hml hown hts hl.1 ⟨Nat.le_of_ble_eq_true rfl, Nat.le_of_ble_eq_true rfl⟩ ⟨Nat.le_of_ble_eq_true rfl, Nat.le_of_ble_eq_true rfl⟩ hK hP hD hS hA (rfl) (q0 := 0) rfl rfl rfl (Nat.le_of_ble_eq_true rfl) d_M_deal_75 (fun H locs hP hD hS => ?_)
          have hP : va_P D cls (mW cI cZ qm mp mt ml mc mf me mg mh mu (cd) (nI k) (nI n) (nI (pn)) (nI ((nx + (k - 1)))) (ep) (nI ((ds_f (fun i => gf_h (dm_f fb tb nx) (BitVec.ofNat 8 i) k 0#8) u M).1)) ((ds_f (fun i => gf_h (dm_f fb tb nx) (BitVec.ofNat 8 i) k 0#8) u M).2.2.1) ((ds_f (fun i => gf_h (dm_f fb tb nx) (BitVec.ofNat 8 i) k 0#8) u M).2.2.2) (wi) (jb) (fp) (tf) (tt) (fi) (ln) (bx) (1000) (pr) (1000) (tk) (8) (le) (576) (co) (576) (dl_f tk (9 * (8 * f + b)) nx (k - 1) fr) (10) (em) (192) ((ds_f (fun i => gf_h (dm_f fb tb nx) (BitVec.ofNat 8 i) k 0#8) u M).2.1) (10) (nb) (10) (su)) H := hP
          have hD : va_D A (mW cI cZ qm mp mt ml mc mf me mg mh mu (cd) (nI k) (nI n) (nI (pn)) (nI ((nx + (k - 1)))) (ep) (nI ((ds_f (fun i => gf_h (dm_f fb tb nx) (BitVec.ofNat 8 i) k 0#8) u M).1)) ((ds_f (fun i => gf_h (dm_f fb tb nx) (BitVec.ofNat 8 i) k 0#8) u M).2.2.1) ((ds_f (fun i => gf_h (dm_f fb tb nx) (BitVec.ofNat 8 i) k 0#8) u M).2.2.2) (wi) (jb) (fp) (tf) (tt) (fi) (ln) (bx) (1000) (pr) (1000) (tk) (8) (le) (576) (co) (576) (dl_f tk (9 * (8 * f + b)) nx (k - 1) fr) (10) (em) (192) ((ds_f (fun i => gf_h (dm_f fb tb nx) (BitVec.ofNat 8 i) k 0#8) u M).2.1) (10) (nb) (10) (su)) := hD
          refine sd_allVV (As := [.int (0), .int (nI (u + 1)), .int (bI (gf_h (dm_f fb tb nx) (BitVec.ofNat 8 (u + 1)) k 0#8))]) (rest := []) (w1 := (mW cI cZ qm mp mt ml mc mf me mg mh mu (cd) (nI k) (nI n) (nI (pn)) (nI ((nx + (k - 1)))) (ep) (nI ((mm_s (ds_f (fun i => gf_h (dm_f fb tb nx) (BitVec.ofNat 8 i) k 0#8) u M) 0 (nI (u + 1)) (bI (gf_h (dm_f fb tb nx) (BitVec.ofNat 8 (u + 1)) k 0#8))).1)) ((mm_s (ds_f (fun i => gf_h (dm_f fb tb nx) (BitVec.ofNat 8 i) k 0#8) u M) 0 (nI (u + 1)) (bI (gf_h (dm_f fb tb nx) (BitVec.ofNat 8 (u + 1)) k 0#8))).2.2.1) ((mm_s (ds_f (fun i => gf_h (dm_f fb tb nx) (BitVec.ofNat 8 i) k 0#8) u M) 0 (nI (u + 1)) (bI (gf_h (dm_f fb tb nx) (BitVec.ofNat 8 (u + 1)) k 0#8))).2.2.2) (wi) (jb) (fp) (tf) (tt) (fi) (ln) (bx) (1000) (pr) (1000) (tk) (8) (le) (576) (co) (576) (dl_f tk (9 * (8 * f + b)) nx (k - 1) fr) (10) (em) (192) ((mm_s (ds_f (fun i => gf_h (dm_f fb tb nx) (BitVec.ofNat 8 i) k 0#8) u M) 0 (nI (u + 1)) (bI (gf_h (dm_f fb tb nx) (BitVec.ofNat 8 (u + 1)) k 0#8))).2.1) (10) (nb) (10) (su))) (c_M_send l D cI cZ cQ (qm) (mp) (mt) (ml) (mc) (mf) (me) (mg) (mh) (mu) (k) (n) (pn) ((nx + (k - 1))) (cd) (ep) ((ds_f (fun i => gf_h (dm_f fb tb nx) (BitVec.ofNat 8 i) k 0#8) u M)) (wi) (jb) (fp) (tf) (tt) (fi) (ln) (bx) (pr) (tk) (le) (co) (dl_f tk (9 * (8 * f + b)) nx (k - 1) fr) (em) (nb) (su) (0) (nI (u + 1)) (bI (gf_h (dm_f fb tb nx) (BitVec.ofNat 8 (u + 1)) k 0#8)) (hk) (hn) (hTu)) ⟨wc_M_send, wm_M_81, wi_M, by decide, by decide, show (parseMethodDescriptor y_M_send.desc).map (fun d => d.parameters.length) = some 3 by decide +kernel⟩ wo_M_send wz_M_send hx hb hml hown hts hl.1 ⟨Nat.le_of_ble_eq_true rfl, Nat.le_of_ble_eq_true rfl⟩ ⟨Nat.le_of_ble_eq_true rfl, Nat.le_of_ble_eq_true rfl⟩ hK hP hD hS hA (rfl) (q0 := 0) rfl rfl rfl (Nat.le_of_ble_eq_true rfl) d_M_deal_78 (fun H locs hP hD hS => ?_)
          have hP : va_P D cls (mW cI cZ qm mp mt ml mc mf me mg mh mu (cd) (nI k) (nI n) (nI (pn)) (nI ((nx + (k - 1)))) (ep) (nI ((mm_s (ds_f (fun i => gf_h (dm_f fb tb nx) (BitVec.ofNat 8 i) k 0#8) u M) 0 (nI (u + 1)) (bI (gf_h (dm_f fb tb nx) (BitVec.ofNat 8 (u + 1)) k 0#8))).1)) ((mm_s (ds_f (fun i => gf_h (dm_f fb tb nx) (BitVec.ofNat 8 i) k 0#8) u M) 0 (nI (u + 1)) (bI (gf_h (dm_f fb tb nx) (BitVec.ofNat 8 (u + 1)) k 0#8))).2.2.1) ((mm_s (ds_f (fun i => gf_h (dm_f fb tb nx) (BitVec.ofNat 8 i) k 0#8) u M) 0 (nI (u + 1)) (bI (gf_h (dm_f fb tb nx) (BitVec.ofNat 8 (u + 1)) k 0#8))).2.2.2) (wi) (jb) (fp) (tf) (tt) (fi) (ln) (bx) (1000) (pr) (1000) (tk) (8) (le) (576) (co) (576) (dl_f tk (9 * (8 * f + b)) nx (k - 1) fr) (10) (em) (192) ((mm_s (ds_f (fun i => gf_h (dm_f fb tb nx) (BitVec.ofNat 8 i) k 0#8) u M) 0 (nI (u + 1)) (bI (gf_h (dm_f fb tb nx) (BitVec.ofNat 8 (u + 1)) k 0#8))).2.1) (10) (nb) (10) (su)) H := hP
          have hD : va_D A (mW cI cZ qm mp mt ml mc mf me mg mh mu (cd) (nI k) (nI n) (nI (pn)) (nI ((nx + (k - 1)))) (ep) (nI ((mm_s (ds_f (fun i => gf_h (dm_f fb tb nx) (BitVec.ofNat 8 i) k 0#8) u M) 0 (nI (u + 1)) (bI (gf_h (dm_f fb tb nx) (BitVec.ofNat 8 (u + 1)) k 0#8))).1)) ((mm_s (ds_f (fun i => gf_h (dm_f fb tb nx) (BitVec.ofNat 8 i) k 0#8) u M) 0 (nI (u + 1)) (bI (gf_h (dm_f fb tb nx) (BitVec.ofNat 8 (u + 1)) k 0#8))).2.2.1) ((mm_s (ds_f (fun i => gf_h (dm_f fb tb nx) (BitVec.ofNat 8 i) k 0#8) u M) 0 (nI (u + 1)) (bI (gf_h (dm_f fb tb nx) (BitVec.ofNat 8 (u + 1)) k 0#8))).2.2.2) (wi) (jb) (fp) (tf) (tt) (fi) (ln) (bx) (1000) (pr) (1000) (tk) (8) (le) (576) (co) (576) (dl_f tk (9 * (8 * f + b)) nx (k - 1) fr) (10) (em) (192) ((mm_s (ds_f (fun i => gf_h (dm_f fb tb nx) (BitVec.ofNat 8 i) k 0#8) u M) 0 (nI (u + 1)) (bI (gf_h (dm_f fb tb nx) (BitVec.ofNat 8 (u + 1)) k 0#8))).2.1) (10) (nb) (10) (su)) := hD
          refine lv_iinc hx hb d_M_deal_81 hl (k := 4) rfl (v := nI (u + 1 + 1)) (ii_1 _) (Nat.le_of_ble_eq_true rfl) (lv' := [(4, .int (nI (u + 1 + 1))), (0, .ref qm), (1, .int (nI f)), (2, .int (nI b)), (3, .int (nI (9 * (8 * f + b))))]) rfl (fun ls hl => ?_)
          refine lv_goto (tgt := 54) hx hb d_M_deal_84 rfl ?_
          have hl := lv_sub hl (l' := [(0, .ref qm), (1, .int (nI f)), (2, .int (nI b)), (3, .int (nI (9 * (8 * f + b)))), (4, .int (nI (u + 1 + 1)))]) [1, 2, 3, 4, 0] rfl
          exact ih54 _ (by omega) (u + 1) ls _ _ rfl (by omega) hl hP hD hS
      exact loop54 _ (0) ls _ _ rfl (Nat.zero_le _) hl hP hD hS
    · skip
      rw [nI_leI (by omega) (by omega)] at hc19
      refine lv_aload_n hx hb d_M_deal_22 rfl (lv_at hl 0 rfl) ?_
      refine va_get (D := D) (ci := 5) (v := .ref mf) (C := R_M) (T := F_M) (N := 26) hx hb hts wl_M hown hK hP 0 rfl rfl 9 (by decide) (hts _ wf_M_22) (fun _ h9 => h9) rfl d_M_deal_23 ?_
      refine lv_iload_n hx hb d_M_deal_26 rfl (lv_at hl 3 rfl) ?_
      refine lv_iload hx hb d_M_deal_27 (lv_at hl 4 rfl) ?_
      refine lv_iadd hx hb d_M_deal_29 ?_
      refine sd_top (y := nI (9 * (8 * f + b) + (t + 1))) (nI_add _ _) ?_
      refine lv_aload_n hx hb d_M_deal_30 rfl (lv_at hl 0 rfl) ?_
      refine va_get (D := D) (ci := 5) (v := .ref mf) (C := R_M) (T := F_M) (N := 26) hx hb hts wl_M hown hK hP 0 rfl rfl 9 (by decide) (hts _ wf_M_22) (fun _ h9 => h9) rfl d_M_deal_31 ?_
      refine lv_iload_n hx hb d_M_deal_34 rfl (lv_at hl 3 rfl) ?_
      refine lv_iload hx hb d_M_deal_35 (lv_at hl 4 rfl) ?_
      refine lv_iadd hx hb d_M_deal_37 ?_
      refine sd_top (y := nI (9 * (8 * f + b) + (t + 1))) (nI_add _ _) ?_
      refine sd_iald (j := 9 * (8 * f + b) + (t + 1)) hx hb hK hP 5 0 rfl rfl (by omega) (by omega) d_M_deal_38 ?_
      refine lv_aload_n hx hb d_M_deal_39 rfl (lv_at hl 0 rfl) ?_
      refine sd_allVI (As := []) (rest := [.int ((dl_f tk (9 * (8 * f + b)) nx t fr) (9 * (8 * f + b) + (t + 1))), .int (nI (9 * (8 * f + b) + (t + 1))), .ref mf]) (w1 := (mW cI cZ qm mp mt ml mc mf me mg mh mu (cd) (nI k) (nI n) (nI (pn)) (nI ((nx + t) + 1)) (ep) (nI (M.1)) (M.2.2.1) (M.2.2.2) (wi) (jb) (fp) (tf) (tt) (fi) (ln) (bx) (1000) (pr) (1000) (tk) (8) (le) (576) (co) (576) (dl_f tk (9 * (8 * f + b)) nx t fr) (10) (em) (192) (M.2.1) (10) (nb) (10) (su))) (c_M_nextTaken l D cI cZ cQ (qm) (mp) (mt) (ml) (mc) (mf) (me) (mg) (mh) (mu) (k) (n) (pn) (nx + t) (cd) (ep) (M) (wi) (jb) (fp) (tf) (tt) (fi) (ln) (bx) (pr) (tk) (le) (co) (dl_f tk (9 * (8 * f + b)) nx t fr) (em) (nb) (su) (hk) (hn) (by omega)) ⟨wc_M_nextTaken, wm_M_73, wi_M, by decide, by decide, show (parseMethodDescriptor y_M_nextTaken.desc).map (fun d => d.parameters.length) = some 0 by decide +kernel⟩ wo_M_nextTaken wz_M_nextTaken hx hb hml hown hts hl.1 ⟨Nat.le_of_ble_eq_true rfl, Nat.le_of_ble_eq_true rfl⟩ ⟨Nat.le_of_ble_eq_true rfl, Nat.le_of_ble_eq_true rfl⟩ hK hP hD hS hA (rfl) (q0 := 0) rfl rfl rfl (Nat.le_of_ble_eq_true rfl) d_M_deal_40 (fun H locs hP hD hS => ?_)
      have hP : va_P D cls (mW cI cZ qm mp mt ml mc mf me mg mh mu (cd) (nI k) (nI n) (nI (pn)) (nI ((nx + t) + 1)) (ep) (nI (M.1)) (M.2.2.1) (M.2.2.2) (wi) (jb) (fp) (tf) (tt) (fi) (ln) (bx) (1000) (pr) (1000) (tk) (8) (le) (576) (co) (576) (dl_f tk (9 * (8 * f + b)) nx t fr) (10) (em) (192) (M.2.1) (10) (nb) (10) (su)) H := hP
      have hD : va_D A (mW cI cZ qm mp mt ml mc mf me mg mh mu (cd) (nI k) (nI n) (nI (pn)) (nI ((nx + t) + 1)) (ep) (nI (M.1)) (M.2.2.1) (M.2.2.2) (wi) (jb) (fp) (tf) (tt) (fi) (ln) (bx) (1000) (pr) (1000) (tk) (8) (le) (576) (co) (576) (dl_f tk (9 * (8 * f + b)) nx t fr) (10) (em) (192) (M.2.1) (10) (nb) (10) (su)) := hD
      refine lv_ixor hx hb d_M_deal_43 ?_
      refine sd_iast (j := 9 * (8 * f + b) + (t + 1)) hx hb hK hP hD hS 5 0 rfl rfl (by omega) (by omega) d_M_deal_44 (fun H locs hP hD hS => ?_)
      have hP : va_P D cls (mW cI cZ qm mp mt ml mc mf me mg mh mu (cd) (nI k) (nI n) (nI (pn)) (nI ((nx + t) + 1)) (ep) (nI (M.1)) (M.2.2.1) (M.2.2.2) (wi) (jb) (fp) (tf) (tt) (fi) (ln) (bx) (1000) (pr) (1000) (tk) (8) (le) (576) (co) (576) (upd (dl_f tk (9 * (8 * f + b)) nx t fr) (9 * (8 * f + b) + (t + 1)) (((dl_f tk (9 * (8 * f + b)) nx t fr) (9 * (8 * f + b) + (t + 1))) ^^^ (tk (nx + t)))) (10) (em) (192) (M.2.1) (10) (nb) (10) (su)) H := hP
      have hD : va_D A (mW cI cZ qm mp mt ml mc mf me mg mh mu (cd) (nI k) (nI n) (nI (pn)) (nI ((nx + t) + 1)) (ep) (nI (M.1)) (M.2.2.1) (M.2.2.2) (wi) (jb) (fp) (tf) (tt) (fi) (ln) (bx) (1000) (pr) (1000) (tk) (8) (le) (576) (co) (576) (upd (dl_f tk (9 * (8 * f + b)) nx t fr) (9 * (8 * f + b) + (t + 1)) (((dl_f tk (9 * (8 * f + b)) nx t fr) (9 * (8 * f + b) + (t + 1))) ^^^ (tk (nx + t)))) (10) (em) (192) (M.2.1) (10) (nb) (10) (su)) := hD
      refine lv_iinc hx hb d_M_deal_45 hl (k := 4) rfl (v := nI (t + 1 + 1)) (ii_1 _) (Nat.le_of_ble_eq_true rfl) (lv' := [(4, .int (nI (t + 1 + 1))), (0, .ref qm), (1, .int (nI f)), (2, .int (nI b)), (3, .int (nI (9 * (8 * f + b))))]) rfl (fun ls hl => ?_)
      refine lv_goto (tgt := 13) hx hb d_M_deal_48 rfl ?_
      have hl := lv_sub hl (l' := [(0, .ref qm), (1, .int (nI f)), (2, .int (nI b)), (3, .int (nI (9 * (8 * f + b)))), (4, .int (nI (t + 1 + 1)))]) [1, 2, 3, 4, 0] rfl
      exact ih13 _ (by omega) (t + 1) ls _ _ rfl (by omega) hl hP hD hS
  exact loop13 _ (0) ls _ _ rfl (by omega) hl hP hD hS
set_option maxHeartbeats 4000000 in
set_option maxRecDepth 100000 in
theorem c_M_tidy (l : Launch) (D : va_G) (cI cZ cQ : ClassId) (qm : Nat) (mp : Nat) (mt : Nat) (ml : Nat) (mc : Nat) (mf : Nat) (me : Nat) (mg : Nat) (mh : Nat) (mu : Nat) (k : Nat) (n : Nat) (pn : Nat) (nx : Nat) (cd : Int32) (ep : Int32) (M : mm_T) (wi : Int32) (jb : Int32) (fp : Int32) (fi : Int32) (ln : Int32) (bx : Int32) (pr : Nat → Int32) (tk : Nat → Int32) (le : Nat → Int32) (co : Nat → Int32) (fr : Nat → Int32) (em : Nat → Int32) (nb : Nat → Int32) (su : Nat → Int32) (f : Nat) (g : Nat) (hk : k ≤ 9) (hn : n ≤ 9) (hT : M.1 + (g + 1 - f) < 2 ^ 31) (hf1 : f < 2 ^ 30) (hg1 : g < 2 ^ 30) : sd_V l D (tyL cI cZ cQ) y_M_tidy b_M_tidy 2 ({ frames := 1, cells := 0, slots := 0, locals := 24 }) [.ref qm] (mW cI cZ qm mp mt ml mc mf me mg mh mu (cd) (nI k) (nI n) (nI (pn)) (nI (nx)) (ep) (nI (M.1)) (M.2.2.1) (M.2.2.2) (wi) (jb) (fp) (nI f) (nI g) (fi) (ln) (bx) (1000) (pr) (1000) (tk) (8) (le) (576) (co) (576) (fr) (10) (em) (192) (M.2.1) (10) (nb) (10) (su)) (mW cI cZ qm mp mt ml mc mf me mg mh mu (cd) (nI k) (nI n) (nI (pn)) (nI (nx)) (ep) (nI ((mt_f (g + 1 - f) f (M, f)).1.1)) ((mt_f (g + 1 - f) f (M, f)).1.2.2.1) ((mt_f (g + 1 - f) f (M, f)).1.2.2.2) (wi) (jb) (fp) (nI (mt_f (g + 1 - f) f (M, f)).2) (nI g) (fi) (ln) (bx) (1000) (pr) (1000) (tk) (8) (le) (576) (co) (576) (fr) (10) (em) (192) ((mt_f (g + 1 - f) f (M, f)).1.2.1) (10) (nb) (10) (su)) := by
  refine sd_ofV (by decide) (Nat.le_of_ble_eq_true rfl) ?_
  intro p e s m below meth c A ls hx hb hr hml hlk hown hts hK hP hD hA hS hl
  have hl : lv_has ls 2 [(0, .ref qm)] := hl
  refine lv_aload_n hx hb d_M_tidy_0 rfl (lv_at hl 0 rfl) ?_
  refine va_get (D := D) (ci := 5) (v := .int (nI f)) (C := R_M) (T := F_M) (N := 26) hx hb hts wl_M hown hK hP 0 rfl rfl 19 (by decide) (hts _ wf_M_91) (fun _ h9 => h9) rfl d_M_tidy_1 ?_
  refine lv_istore_n hx hb d_M_tidy_4 rfl hl (Nat.le_of_ble_eq_true rfl) (lv' := [(1, .int (nI f)), (0, .ref qm)]) rfl (fun ls hl => ?_)
  have hl := lv_sub hl (l' := [(0, .ref qm), (1, .int (nI f))]) [1, 0] rfl
  have loop5 : ∀ (d : Nat) (i : Nat) (M2 : mm_T) (f2 : Nat) (ls : Array Slot) (H : Heap) (locs : List Loc), g + 1 - i = d → (M2.1 + (g + 1 - i) < 2 ^ 31) → (i < 2 ^ 31) → (mt_f (g + 1 - i) i (M2, f2) = mt_f (g + 1 - f) f (M, f)) → lv_has ls 2 [(0, .ref qm), (1, .int (nI (i)))] → va_P D cls (mW cI cZ qm mp mt ml mc mf me mg mh mu (cd) (nI k) (nI n) (nI (pn)) (nI (nx)) (ep) (nI (M2.1)) (M2.2.2.1) (M2.2.2.2) (wi) (jb) (fp) (nI f2) (nI g) (fi) (ln) (bx) (1000) (pr) (1000) (tk) (8) (le) (576) (co) (576) (fr) (10) (em) (192) (M2.2.1) (10) (nb) (10) (su)) H → va_D A (mW cI cZ qm mp mt ml mc mf me mg mh mu (cd) (nI k) (nI n) (nI (pn)) (nI (nx)) (ep) (nI (M2.1)) (M2.2.2.1) (M2.2.2.2) (wi) (jb) (fp) (nI f2) (nI g) (fi) (ln) (bx) (1000) (pr) (1000) (tk) (8) (le) (576) (co) (576) (fr) (10) (em) (192) (M2.2.1) (10) (nb) (10) (su)) → va_S A s.heap H locs → W p l e ({ frames := 1, cells := 0, slots := 0, locals := 24 }) s m ([.ref qm] : List Value).toArray below meth c H locs 0 0 (MQ below (sd_qv D (mW cI cZ qm mp mt ml mc mf me mg mh mu (cd) (nI k) (nI n) (nI (pn)) (nI (nx)) (ep) (nI ((mt_f (g + 1 - f) f (M, f)).1.1)) ((mt_f (g + 1 - f) f (M, f)).1.2.2.1) ((mt_f (g + 1 - f) f (M, f)).1.2.2.2) (wi) (jb) (fp) (nI (mt_f (g + 1 - f) f (M, f)).2) (nI g) (fi) (ln) (bx) (1000) (pr) (1000) (tk) (8) (le) (576) (co) (576) (fr) (10) (em) (192) ((mt_f (g + 1 - f) f (M, f)).1.2.1) (10) (nb) (10) (su)) A) ([.ref qm] : List Value).toArray s 0 0 A) (F0 m 5 ls []) := by
    intro d
    induction d using Nat.strongRecOn with
    | _ d ih5 =>
    intro i M2 f2 ls H locs hd hT2 hi3 hM hl hP hD hS
    subst hd
    refine lv_iload_n hx hb d_M_tidy_5 rfl (lv_at hl 1 rfl) ?_
    refine lv_aload_n hx hb d_M_tidy_6 rfl (lv_at hl 0 rfl) ?_
    refine va_get (D := D) (ci := 5) (v := .int (nI g)) (C := R_M) (T := F_M) (N := 26) hx hb hts wl_M hown hK hP 0 rfl rfl 20 (by decide) (hts _ wf_M_94) (fun _ h9 => h9) rfl d_M_tidy_7 ?_
    refine lv_icmp_gt (tgt := 53) hx hb d_M_tidy_10 rfl (fun hc10 => ?_) (fun hc10 => ?_)
    · skip
      rw [nI_ltI (by omega) (by omega)] at hc10
      have he : mt_f (g + 1 - f) f (M, f) = (M2, f2) := by rw [← hM, show g + 1 - i = 0 by omega]; rfl
      have hP : va_P D cls (mW cI cZ qm mp mt ml mc mf me mg mh mu (cd) (nI k) (nI n) (nI (pn)) (nI (nx)) (ep) (nI ((mt_f (g + 1 - f) f (M, f)).1.1)) ((mt_f (g + 1 - f) f (M, f)).1.2.2.1) ((mt_f (g + 1 - f) f (M, f)).1.2.2.2) (wi) (jb) (fp) (nI (mt_f (g + 1 - f) f (M, f)).2) (nI g) (fi) (ln) (bx) (1000) (pr) (1000) (tk) (8) (le) (576) (co) (576) (fr) (10) (em) (192) ((mt_f (g + 1 - f) f (M, f)).1.2.1) (10) (nb) (10) (su)) H := by rw [he]; exact hP
      exact sd_vret hx hb hr hlk hP hS (Nat.le_of_ble_eq_true rfl) (Nat.le_of_ble_eq_true rfl) d_M_tidy_53
    · skip
      rw [nI_ltI (by omega) (by omega)] at hc10
      have hig : i ≤ g := by omega
      have hTn : (mm_s M2 0 (nI i) 257).1 + (g + 1 - (i + 1)) < 2 ^ 31 := by
        have := mm_b M2 0 (nI i) 257
        omega
      refine lv_aload_n hx hb d_M_tidy_13 rfl (lv_at hl 0 rfl) ?_
      refine va_get (D := D) (ci := 5) (v := .int (M2.2.2.2)) (C := R_M) (T := F_M) (N := 26) hx hb hts wl_M hown hK hP 0 rfl rfl 15 (by decide) (hts _ wf_M_66) (fun _ h9 => h9) rfl d_M_tidy_14 ?_
      refine lv_if_ne (tgt := 53) hx hb d_M_tidy_17 rfl (fun hc17 => ?_) (fun hc17 => ?_)
      · skip
        have he : mt_f (g + 1 - f) f (M, f) = (M2, f2) := by rw [← hM]; exact mt_e hc17
        have hP : va_P D cls (mW cI cZ qm mp mt ml mc mf me mg mh mu (cd) (nI k) (nI n) (nI (pn)) (nI (nx)) (ep) (nI ((mt_f (g + 1 - f) f (M, f)).1.1)) ((mt_f (g + 1 - f) f (M, f)).1.2.2.1) ((mt_f (g + 1 - f) f (M, f)).1.2.2.2) (wi) (jb) (fp) (nI (mt_f (g + 1 - f) f (M, f)).2) (nI g) (fi) (ln) (bx) (1000) (pr) (1000) (tk) (8) (le) (576) (co) (576) (fr) (10) (em) (192) ((mt_f (g + 1 - f) f (M, f)).1.2.1) (10) (nb) (10) (su)) H := by rw [he]; exact hP
        exact sd_vret hx hb hr hlk hP hS (Nat.le_of_ble_eq_true rfl) (Nat.le_of_ble_eq_true rfl) d_M_tidy_53
      · skip
        refine lv_aload_n hx hb d_M_tidy_20 rfl (lv_at hl 0 rfl) ?_
        refine lv_iconst (v := 0) hx hb d_M_tidy_21 (by decide) ?_
        refine lv_iload_n hx hb d_M_tidy_22 rfl (lv_at hl 1 rfl) ?_
        refine lv_sipush (v := 257) hx hb d_M_tidy_23 (by decide) ?_
        refine sd_allVV (As := [.int (0), .int (nI i), .int (257)]) (rest := []) (w1 := (mW cI cZ qm mp mt ml mc mf me mg mh mu (cd) (nI k) (nI n) (nI (pn)) (nI (nx)) (ep) (nI ((mm_s M2 0 (nI i) 257).1)) ((mm_s M2 0 (nI i) 257).2.2.1) ((mm_s M2 0 (nI i) 257).2.2.2) (wi) (jb) (fp) (nI f2) (nI g) (fi) (ln) (bx) (1000) (pr) (1000) (tk) (8) (le) (576) (co) (576) (fr) (10) (em) (192) ((mm_s M2 0 (nI i) 257).2.1) (10) (nb) (10) (su))) (c_M_send l D cI cZ cQ (qm) (mp) (mt) (ml) (mc) (mf) (me) (mg) (mh) (mu) (k) (n) (pn) (nx) (cd) (ep) (M2) (wi) (jb) (fp) (nI f2) (nI g) (fi) (ln) (bx) (pr) (tk) (le) (co) (fr) (em) (nb) (su) (0) (nI i) (257) (hk) (hn) (by omega)) ⟨wc_M_send, wm_M_81, wi_M, by decide, by decide, show (parseMethodDescriptor y_M_send.desc).map (fun d => d.parameters.length) = some 3 by decide +kernel⟩ wo_M_send wz_M_send hx hb hml hown hts hl.1 ⟨Nat.le_of_ble_eq_true rfl, Nat.le_of_ble_eq_true rfl⟩ ⟨Nat.le_of_ble_eq_true rfl, Nat.le_of_ble_eq_true rfl⟩ hK hP hD hS hA (rfl) (q0 := 0) rfl rfl rfl (Nat.le_of_ble_eq_true rfl) d_M_tidy_26 (fun H locs hP hD hS => ?_)
        have hP : va_P D cls (mW cI cZ qm mp mt ml mc mf me mg mh mu (cd) (nI k) (nI n) (nI (pn)) (nI (nx)) (ep) (nI ((mm_s M2 0 (nI i) 257).1)) ((mm_s M2 0 (nI i) 257).2.2.1) ((mm_s M2 0 (nI i) 257).2.2.2) (wi) (jb) (fp) (nI f2) (nI g) (fi) (ln) (bx) (1000) (pr) (1000) (tk) (8) (le) (576) (co) (576) (fr) (10) (em) (192) ((mm_s M2 0 (nI i) 257).2.1) (10) (nb) (10) (su)) H := hP
        have hD : va_D A (mW cI cZ qm mp mt ml mc mf me mg mh mu (cd) (nI k) (nI n) (nI (pn)) (nI (nx)) (ep) (nI ((mm_s M2 0 (nI i) 257).1)) ((mm_s M2 0 (nI i) 257).2.2.1) ((mm_s M2 0 (nI i) 257).2.2.2) (wi) (jb) (fp) (nI f2) (nI g) (fi) (ln) (bx) (1000) (pr) (1000) (tk) (8) (le) (576) (co) (576) (fr) (10) (em) (192) ((mm_s M2 0 (nI i) 257).2.1) (10) (nb) (10) (su)) := hD
        refine lv_aload_n hx hb d_M_tidy_29 rfl (lv_at hl 0 rfl) ?_
        refine lv_aload_n hx hb d_M_tidy_30 rfl (lv_at hl 0 rfl) ?_
        refine va_get (D := D) (ci := 5) (v := .int ((mm_s M2 0 (nI i) 257).2.2.2)) (C := R_M) (T := F_M) (N := 26) hx hb hts wl_M hown hK hP 0 rfl rfl 15 (by decide) (hts _ wf_M_66) (fun _ h9 => h9) rfl d_M_tidy_31 ?_
        refine lv_if_eq (tgt := 41) hx hb d_M_tidy_34 rfl (fun hc34 => ?_) (fun hc34 => ?_)
        · skip
          have hMn : mt_f (g + 1 - (i + 1)) (i + 1) (mm_s M2 0 (nI i) 257, i + 1) = mt_f (g + 1 - f) f (M, f) := by rw [← hM, mt_S hig hc17, if_pos hc34]
          refine lv_iload_n hx hb d_M_tidy_41 rfl (lv_at hl 1 rfl) ?_
          refine lv_iconst (v := 1) hx hb d_M_tidy_42 (by decide) ?_
          refine lv_iadd hx hb d_M_tidy_43 ?_
          refine sd_top (y := nI (i + 1)) (nI_1 _) ?_
          refine va_put (D := D) (ci := 5) (v := .int (nI (i + 1))) (ty := .int) (C := R_M) (T := F_M) (N := 26) hx hb hts wl_M t_M t_M_ok n_M hown hK hP hD hS 0 rfl rfl 19 (by decide) (hts _ wf_M_91) (fun _ h9 => h9) rfl (by decide +kernel) rfl rfl (Nat.le_of_ble_eq_true rfl) d_M_tidy_44 (fun H locs hP hD hS => ?_)
          have hP : va_P D cls (mW cI cZ qm mp mt ml mc mf me mg mh mu (cd) (nI k) (nI n) (nI (pn)) (nI (nx)) (ep) (nI ((mm_s M2 0 (nI i) 257).1)) ((mm_s M2 0 (nI i) 257).2.2.1) ((mm_s M2 0 (nI i) 257).2.2.2) (wi) (jb) (fp) (nI (i + 1)) (nI g) (fi) (ln) (bx) (1000) (pr) (1000) (tk) (8) (le) (576) (co) (576) (fr) (10) (em) (192) ((mm_s M2 0 (nI i) 257).2.1) (10) (nb) (10) (su)) H := hP
          have hD : va_D A (mW cI cZ qm mp mt ml mc mf me mg mh mu (cd) (nI k) (nI n) (nI (pn)) (nI (nx)) (ep) (nI ((mm_s M2 0 (nI i) 257).1)) ((mm_s M2 0 (nI i) 257).2.2.1) ((mm_s M2 0 (nI i) 257).2.2.2) (wi) (jb) (fp) (nI (i + 1)) (nI g) (fi) (ln) (bx) (1000) (pr) (1000) (tk) (8) (le) (576) (co) (576) (fr) (10) (em) (192) ((mm_s M2 0 (nI i) 257).2.1) (10) (nb) (10) (su)) := hD
          refine lv_iinc hx hb d_M_tidy_47 hl (k := 1) rfl (v := nI (i + 1)) (ii_1 _) (Nat.le_of_ble_eq_true rfl) (lv' := [(1, .int (nI (i + 1))), (0, .ref qm)]) rfl (fun ls hl => ?_)
          refine lv_goto (tgt := 5) hx hb d_M_tidy_50 rfl ?_
          have hl := lv_sub hl (l' := [(0, .ref qm), (1, .int (nI (i + 1)))]) [1, 0] rfl
          exact ih5 _ (by omega) (i + 1) _ _ ls _ _ rfl (hTn) (by omega) (hMn) hl hP hD hS
        · skip
          have hMn : mt_f (g + 1 - (i + 1)) (i + 1) (mm_s M2 0 (nI i) 257, i) = mt_f (g + 1 - f) f (M, f) := by rw [← hM, mt_S hig hc17, if_neg hc34]
          refine lv_iload_n hx hb d_M_tidy_37 rfl (lv_at hl 1 rfl) ?_
          refine lv_goto (tgt := 44) hx hb d_M_tidy_38 rfl ?_
          refine va_put (D := D) (ci := 5) (v := .int (nI (i))) (ty := .int) (C := R_M) (T := F_M) (N := 26) hx hb hts wl_M t_M t_M_ok n_M hown hK hP hD hS 0 rfl rfl 19 (by decide) (hts _ wf_M_91) (fun _ h9 => h9) rfl (by decide +kernel) rfl rfl (Nat.le_of_ble_eq_true rfl) d_M_tidy_44 (fun H locs hP hD hS => ?_)
          have hP : va_P D cls (mW cI cZ qm mp mt ml mc mf me mg mh mu (cd) (nI k) (nI n) (nI (pn)) (nI (nx)) (ep) (nI ((mm_s M2 0 (nI i) 257).1)) ((mm_s M2 0 (nI i) 257).2.2.1) ((mm_s M2 0 (nI i) 257).2.2.2) (wi) (jb) (fp) (nI (i)) (nI g) (fi) (ln) (bx) (1000) (pr) (1000) (tk) (8) (le) (576) (co) (576) (fr) (10) (em) (192) ((mm_s M2 0 (nI i) 257).2.1) (10) (nb) (10) (su)) H := hP
          have hD : va_D A (mW cI cZ qm mp mt ml mc mf me mg mh mu (cd) (nI k) (nI n) (nI (pn)) (nI (nx)) (ep) (nI ((mm_s M2 0 (nI i) 257).1)) ((mm_s M2 0 (nI i) 257).2.2.1) ((mm_s M2 0 (nI i) 257).2.2.2) (wi) (jb) (fp) (nI (i)) (nI g) (fi) (ln) (bx) (1000) (pr) (1000) (tk) (8) (le) (576) (co) (576) (fr) (10) (em) (192) ((mm_s M2 0 (nI i) 257).2.1) (10) (nb) (10) (su)) := hD
          refine lv_iinc hx hb d_M_tidy_47 hl (k := 1) rfl (v := nI (i + 1)) (ii_1 _) (Nat.le_of_ble_eq_true rfl) (lv' := [(1, .int (nI (i + 1))), (0, .ref qm)]) rfl (fun ls hl => ?_)
          refine lv_goto (tgt := 5) hx hb d_M_tidy_50 rfl ?_
          have hl := lv_sub hl (l' := [(0, .ref qm), (1, .int (nI (i + 1)))]) [1, 0] rfl
          exact ih5 _ (by omega) (i + 1) _ _ ls _ _ rfl (hTn) (by omega) (hMn) hl hP hD hS
  exact loop5 _ (f) (M) (f) ls _ _ rfl (hT) (by omega) (rfl) hl hP hD hS
set_option maxHeartbeats 4000000 in
set_option maxRecDepth 100000 in
theorem c_M_flip_1 (l : Launch) (D : va_G) (cI cZ cQ : ClassId) (qm : Nat) (mp : Nat) (mt : Nat) (ml : Nat) (mc : Nat) (mf : Nat) (me : Nat) (mg : Nat) (mh : Nat) (mu : Nat) (k : Nat) (n : Nat) (pn : Nat) (nx : Nat) (cd : Int32) (ep : Int32) (M : mm_T) (wi : Int32) (fp : Int32) (tf : Int32) (tt : Int32) (ln : Int32) (bx : Int32) (pr : Nat → Int32) (tk : Nat → Int32) (le : Nat → Int32) (co : Nat → Int32) (fr : Nat → Int32) (em : Nat → Int32) (nb : Nat → Int32) (su : Nat → Int32) (fx : Nat) (hk : k ≤ 9) (hn : n ≤ 9) (hfx : fx < 8) : sd_V l D (tyL cI cZ cQ) y_M_flip b_M_flip 2 ({ frames := 0, cells := 0, slots := 0, locals := 0 }) [.ref qm] (mW cI cZ qm mp mt ml mc mf me mg mh mu (cd) (nI k) (nI n) (nI (pn)) (nI (nx)) (ep) (nI (M.1)) (M.2.2.1) (M.2.2.2) (wi) (1) (fp) (tf) (tt) (nI fx) (ln) (bx) (1000) (pr) (1000) (tk) (8) (le) (576) (co) (576) (fr) (10) (em) (192) (M.2.1) (10) (nb) (10) (su)) (mW cI cZ qm mp mt ml mc mf me mg mh mu (cd) (nI k) (nI n) (nI (pn)) (nI (nx)) (ep) (nI (M.1)) (M.2.2.1) (M.2.2.2) (wi) (1) (1) (tf) (tt) (nI fx) (ln) (bx) (1000) (pr) (1000) (tk) (8) (upd le fx ln) (576) (cp_f fr 576 co) (576) (fr) (10) (em) (192) (M.2.1) (10) (nb) (10) (su)) := by
  refine sd_ofV (by decide) (Nat.le_of_ble_eq_true rfl) ?_
  intro p e s m below meth c A ls hx hb hr hml hlk hown hts hK hP hD hA hS hl
  have hl : lv_has ls 2 [(0, .ref qm)] := hl
  refine lv_aload_n hx hb d_M_flip_0 rfl (lv_at hl 0 rfl) ?_
  refine lv_iconst (v := 1) hx hb d_M_flip_1 (by decide) ?_
  refine va_put (D := D) (ci := 5) (v := .int (1)) (ty := .boolean) (C := R_M) (T := F_M) (N := 26) hx hb hts wl_M t_M t_M_ok n_M hown hK hP hD hS 0 rfl rfl 18 (by decide) (hts _ wf_M_97) (fun _ h9 => h9) rfl (by decide +kernel) rfl rfl (Nat.le_of_ble_eq_true rfl) d_M_flip_2 (fun H locs hP hD hS => ?_)
  have hP : va_P D cls (mW cI cZ qm mp mt ml mc mf me mg mh mu (cd) (nI k) (nI n) (nI (pn)) (nI (nx)) (ep) (nI (M.1)) (M.2.2.1) (M.2.2.2) (wi) (1) (1) (tf) (tt) (nI fx) (ln) (bx) (1000) (pr) (1000) (tk) (8) (le) (576) (co) (576) (fr) (10) (em) (192) (M.2.1) (10) (nb) (10) (su)) H := hP
  have hD : va_D A (mW cI cZ qm mp mt ml mc mf me mg mh mu (cd) (nI k) (nI n) (nI (pn)) (nI (nx)) (ep) (nI (M.1)) (M.2.2.1) (M.2.2.2) (wi) (1) (1) (tf) (tt) (nI fx) (ln) (bx) (1000) (pr) (1000) (tk) (8) (le) (576) (co) (576) (fr) (10) (em) (192) (M.2.1) (10) (nb) (10) (su)) := hD
  refine lv_aload_n hx hb d_M_flip_5 rfl (lv_at hl 0 rfl) ?_
  refine va_get (D := D) (ci := 5) (v := .int (1)) (C := R_M) (T := F_M) (N := 26) hx hb hts wl_M hown hK hP 0 rfl rfl 17 (by decide) (hts _ wf_M_100) (fun _ h9 => h9) rfl d_M_flip_6 ?_
  refine lv_iconst (v := 1) hx hb d_M_flip_9 (by decide) ?_
  refine lv_icmp_ne (tgt := 26) hx hb d_M_flip_10 rfl (fun hc10 => ?_) (fun hc10 => ?_)
  · skip
    exact False.elim (by revert hc10; decide)
  · skip
    refine lv_aload_n hx hb d_M_flip_13 rfl (lv_at hl 0 rfl) ?_
    refine va_get (D := D) (ci := 5) (v := .ref ml) (C := R_M) (T := F_M) (N := 26) hx hb hts wl_M hown hK hP 0 rfl rfl 7 (by decide) (hts _ wf_M_16) (fun _ h9 => h9) rfl d_M_flip_14 ?_
    refine lv_aload_n hx hb d_M_flip_17 rfl (lv_at hl 0 rfl) ?_
    refine va_get (D := D) (ci := 5) (v := .int (nI fx)) (C := R_M) (T := F_M) (N := 26) hx hb hts wl_M hown hK hP 0 rfl rfl 21 (by decide) (hts _ wf_M_103) (fun _ h9 => h9) rfl d_M_flip_18 ?_
    refine lv_aload_n hx hb d_M_flip_21 rfl (lv_at hl 0 rfl) ?_
    refine va_get (D := D) (ci := 5) (v := .int (ln)) (C := R_M) (T := F_M) (N := 26) hx hb hts wl_M hown hK hP 0 rfl rfl 22 (by decide) (hts _ wf_M_106) (fun _ h9 => h9) rfl d_M_flip_22 ?_
    refine sd_iast (j := fx) hx hb hK hP hD hS 3 0 rfl rfl (by omega) (by omega) d_M_flip_25 (fun H locs hP hD hS => ?_)
    have hP : va_P D cls (mW cI cZ qm mp mt ml mc mf me mg mh mu (cd) (nI k) (nI n) (nI (pn)) (nI (nx)) (ep) (nI (M.1)) (M.2.2.1) (M.2.2.2) (wi) (1) (1) (tf) (tt) (nI fx) (ln) (bx) (1000) (pr) (1000) (tk) (8) (upd (le) (fx) (ln)) (576) (co) (576) (fr) (10) (em) (192) (M.2.1) (10) (nb) (10) (su)) H := hP
    have hD : va_D A (mW cI cZ qm mp mt ml mc mf me mg mh mu (cd) (nI k) (nI n) (nI (pn)) (nI (nx)) (ep) (nI (M.1)) (M.2.2.1) (M.2.2.2) (wi) (1) (1) (tf) (tt) (nI fx) (ln) (bx) (1000) (pr) (1000) (tk) (8) (upd (le) (fx) (ln)) (576) (co) (576) (fr) (10) (em) (192) (M.2.1) (10) (nb) (10) (su)) := hD
    refine lv_aload_n hx hb d_M_flip_26 rfl (lv_at hl 0 rfl) ?_
    refine va_get (D := D) (ci := 5) (v := .int (1)) (C := R_M) (T := F_M) (N := 26) hx hb hts wl_M hown hK hP 0 rfl rfl 17 (by decide) (hts _ wf_M_100) (fun _ h9 => h9) rfl d_M_flip_27 ?_
    refine lv_iconst (v := 3) hx hb d_M_flip_30 (by decide) ?_
    refine lv_icmp_ne (tgt := 47) hx hb d_M_flip_31 rfl (fun hc31 => ?_) (fun hc31 => ?_)
    · skip
      refine lv_iconst (v := 0) hx hb d_M_flip_47 (by decide) ?_
      refine sd_top (y := nI 0) (rfl) ?_
      refine lv_istore_n hx hb d_M_flip_48 rfl hl (Nat.le_of_ble_eq_true rfl) (lv' := [(1, .int (nI 0)), (0, .ref qm)]) rfl (fun ls hl => ?_)
      have hl := lv_sub hl (l' := [(0, .ref qm), (1, .int (nI 0))]) [1, 0] rfl
      have loop49 : ∀ (d : Nat) (j : Nat) (ls : Array Slot) (H : Heap) (locs : List Loc), 576 - j = d → (j ≤ 576) → lv_has ls 2 [(0, .ref qm), (1, .int (nI (j)))] → va_P D cls (mW cI cZ qm mp mt ml mc mf me mg mh mu (cd) (nI k) (nI n) (nI (pn)) (nI (nx)) (ep) (nI (M.1)) (M.2.2.1) (M.2.2.2) (wi) (1) (1) (tf) (tt) (nI fx) (ln) (bx) (1000) (pr) (1000) (tk) (8) (upd le fx ln) (576) (cp_f fr j co) (576) (fr) (10) (em) (192) (M.2.1) (10) (nb) (10) (su)) H → va_D A (mW cI cZ qm mp mt ml mc mf me mg mh mu (cd) (nI k) (nI n) (nI (pn)) (nI (nx)) (ep) (nI (M.1)) (M.2.2.1) (M.2.2.2) (wi) (1) (1) (tf) (tt) (nI fx) (ln) (bx) (1000) (pr) (1000) (tk) (8) (upd le fx ln) (576) (cp_f fr j co) (576) (fr) (10) (em) (192) (M.2.1) (10) (nb) (10) (su)) → va_S A s.heap H locs → W p l e ({ frames := 0, cells := 0, slots := 0, locals := 0 }) s m ([.ref qm] : List Value).toArray below meth c H locs 0 0 (MQ below (sd_qv D (mW cI cZ qm mp mt ml mc mf me mg mh mu (cd) (nI k) (nI n) (nI (pn)) (nI (nx)) (ep) (nI (M.1)) (M.2.2.1) (M.2.2.2) (wi) (1) (1) (tf) (tt) (nI fx) (ln) (bx) (1000) (pr) (1000) (tk) (8) (upd le fx ln) (576) (cp_f fr 576 co) (576) (fr) (10) (em) (192) (M.2.1) (10) (nb) (10) (su)) A) ([.ref qm] : List Value).toArray s 0 0 A) (F0 m 49 ls []) := by
        intro d
        induction d using Nat.strongRecOn with
        | _ d ih49 =>
        intro j ls H locs hd hj hl hP hD hS
        subst hd
        refine lv_iload_n hx hb d_M_flip_49 rfl (lv_at hl 1 rfl) ?_
        refine lv_sipush (v := nI 576) hx hb d_M_flip_50 (by decide) ?_
        refine lv_icmp_ge (tgt := 74) hx hb d_M_flip_53 rfl (fun hc53 => ?_) (fun hc53 => ?_)
        · skip
          rw [nI_leI (by omega) (by omega)] at hc53
          have hj8 : 576 = j := by omega
          subst hj8
          refine lv_aload_n hx hb d_M_flip_74 rfl (lv_at hl 0 rfl) ?_
          refine lv_aload_n hx hb d_M_flip_75 rfl (lv_at hl 0 rfl) ?_
          refine va_get (D := D) (ci := 5) (v := .int (1)) (C := R_M) (T := F_M) (N := 26) hx hb hts wl_M hown hK hP 0 rfl rfl 17 (by decide) (hts _ wf_M_100) (fun _ h9 => h9) rfl d_M_flip_76 ?_
          refine lv_iconst (v := 2) hx hb d_M_flip_79 (by decide) ?_
          refine lv_icmp_ne (tgt := 92) hx hb d_M_flip_80 rfl (fun hc80 => ?_) (fun hc80 => ?_)
          · skip
            refine lv_aload_n hx hb d_M_flip_92 rfl (lv_at hl 0 rfl) ?_
            refine va_get (D := D) (ci := 5) (v := .int (ep)) (C := R_M) (T := F_M) (N := 26) hx hb hts wl_M hown hK hP 0 rfl rfl 10 (by decide) (hts _ wf_M_109) (fun _ h9 => h9) rfl d_M_flip_93 ?_
            refine va_put (D := D) (ci := 5) (v := .int (ep)) (ty := .int) (C := R_M) (T := F_M) (N := 26) hx hb hts wl_M t_M t_M_ok n_M hown hK hP hD hS 0 rfl rfl 10 (by decide) (hts _ wf_M_109) (fun _ h9 => h9) rfl (by decide +kernel) rfl rfl (Nat.le_of_ble_eq_true rfl) d_M_flip_96 (fun H locs hP hD hS => ?_)
            have hP : va_P D cls (mW cI cZ qm mp mt ml mc mf me mg mh mu (cd) (nI k) (nI n) (nI (pn)) (nI (nx)) (ep) (nI (M.1)) (M.2.2.1) (M.2.2.2) (wi) (1) (1) (tf) (tt) (nI fx) (ln) (bx) (1000) (pr) (1000) (tk) (8) (upd le fx ln) (576) (cp_f fr 576 co) (576) (fr) (10) (em) (192) (M.2.1) (10) (nb) (10) (su)) H := hP
            have hD : va_D A (mW cI cZ qm mp mt ml mc mf me mg mh mu (cd) (nI k) (nI n) (nI (pn)) (nI (nx)) (ep) (nI (M.1)) (M.2.2.1) (M.2.2.2) (wi) (1) (1) (tf) (tt) (nI fx) (ln) (bx) (1000) (pr) (1000) (tk) (8) (upd le fx ln) (576) (cp_f fr 576 co) (576) (fr) (10) (em) (192) (M.2.1) (10) (nb) (10) (su)) := hD
            exact sd_vret hx hb hr hlk hP hS (Nat.le_of_ble_eq_true rfl) (Nat.le_of_ble_eq_true rfl) d_M_flip_99
          · skip
            exact False.elim (by revert hc80; decide)
        · skip
          rw [nI_leI (by omega) (by omega)] at hc53
          refine lv_aload_n hx hb d_M_flip_56 rfl (lv_at hl 0 rfl) ?_
          refine va_get (D := D) (ci := 5) (v := .ref mc) (C := R_M) (T := F_M) (N := 26) hx hb hts wl_M hown hK hP 0 rfl rfl 8 (by decide) (hts _ wf_M_19) (fun _ h9 => h9) rfl d_M_flip_57 ?_
          refine lv_iload_n hx hb d_M_flip_60 rfl (lv_at hl 1 rfl) ?_
          refine lv_aload_n hx hb d_M_flip_61 rfl (lv_at hl 0 rfl) ?_
          refine va_get (D := D) (ci := 5) (v := .ref mf) (C := R_M) (T := F_M) (N := 26) hx hb hts wl_M hown hK hP 0 rfl rfl 9 (by decide) (hts _ wf_M_22) (fun _ h9 => h9) rfl d_M_flip_62 ?_
          refine lv_iload_n hx hb d_M_flip_65 rfl (lv_at hl 1 rfl) ?_
          refine sd_iald (j := j) hx hb hK hP 5 0 rfl rfl (by omega) (by omega) d_M_flip_66 ?_
          refine sd_iast (j := j) hx hb hK hP hD hS 4 0 rfl rfl (by omega) (by omega) d_M_flip_67 (fun H locs hP hD hS => ?_)
          have hP : va_P D cls (mW cI cZ qm mp mt ml mc mf me mg mh mu (cd) (nI k) (nI n) (nI (pn)) (nI (nx)) (ep) (nI (M.1)) (M.2.2.1) (M.2.2.2) (wi) (1) (1) (tf) (tt) (nI fx) (ln) (bx) (1000) (pr) (1000) (tk) (8) (upd le fx ln) (576) (upd (cp_f fr j co) (j) (fr (j))) (576) (fr) (10) (em) (192) (M.2.1) (10) (nb) (10) (su)) H := hP
          have hD : va_D A (mW cI cZ qm mp mt ml mc mf me mg mh mu (cd) (nI k) (nI n) (nI (pn)) (nI (nx)) (ep) (nI (M.1)) (M.2.2.1) (M.2.2.2) (wi) (1) (1) (tf) (tt) (nI fx) (ln) (bx) (1000) (pr) (1000) (tk) (8) (upd le fx ln) (576) (upd (cp_f fr j co) (j) (fr (j))) (576) (fr) (10) (em) (192) (M.2.1) (10) (nb) (10) (su)) := hD
          refine lv_iinc hx hb d_M_flip_68 hl (k := 1) rfl (v := nI (j + 1)) (ii_1 _) (Nat.le_of_ble_eq_true rfl) (lv' := [(1, .int (nI (j + 1))), (0, .ref qm)]) rfl (fun ls hl => ?_)
          refine lv_goto (tgt := 49) hx hb d_M_flip_71 rfl ?_
          have hl := lv_sub hl (l' := [(0, .ref qm), (1, .int (nI (j + 1)))]) [1, 0] rfl
          exact ih49 _ (by omega) (j + 1) ls _ _ rfl (by omega) hl hP hD hS
      exact loop49 _ (0) ls _ _ rfl (by omega) hl hP hD hS
    · skip
      exact False.elim (by revert hc31; decide)
set_option maxHeartbeats 4000000 in
set_option maxRecDepth 100000 in
theorem c_M_flip_2 (l : Launch) (D : va_G) (cI cZ cQ : ClassId) (qm : Nat) (mp : Nat) (mt : Nat) (ml : Nat) (mc : Nat) (mf : Nat) (me : Nat) (mg : Nat) (mh : Nat) (mu : Nat) (k : Nat) (n : Nat) (pn : Nat) (nx : Nat) (cd : Int32) (ep : Int32) (M : mm_T) (wi : Int32) (fp : Int32) (tf : Int32) (tt : Int32) (fi : Int32) (ln : Int32) (bx : Int32) (pr : Nat → Int32) (tk : Nat → Int32) (le : Nat → Int32) (co : Nat → Int32) (fr : Nat → Int32) (em : Nat → Int32) (nb : Nat → Int32) (su : Nat → Int32) (hk : k ≤ 9) (hn : n ≤ 9) : sd_V l D (tyL cI cZ cQ) y_M_flip b_M_flip 2 ({ frames := 0, cells := 0, slots := 0, locals := 0 }) [.ref qm] (mW cI cZ qm mp mt ml mc mf me mg mh mu (cd) (nI k) (nI n) (nI (pn)) (nI (nx)) (ep) (nI (M.1)) (M.2.2.1) (M.2.2.2) (wi) (2) (fp) (tf) (tt) (fi) (ln) (bx) (1000) (pr) (1000) (tk) (8) (le) (576) (co) (576) (fr) (10) (em) (192) (M.2.1) (10) (nb) (10) (su)) (mW cI cZ qm mp mt ml mc mf me mg mh mu (cd) (nI k) (nI n) (nI (pn)) (nI (nx)) (ep + 1) (nI (M.1)) (M.2.2.1) (M.2.2.2) (wi) (2) (1) (tf) (tt) (fi) (ln) (bx) (1000) (pr) (1000) (tk) (8) (le) (576) (cp_f fr 576 co) (576) (fr) (10) (em) (192) (M.2.1) (10) (nb) (10) (su)) := by
  refine sd_ofV (by decide) (Nat.le_of_ble_eq_true rfl) ?_
  intro p e s m below meth c A ls hx hb hr hml hlk hown hts hK hP hD hA hS hl
  have hl : lv_has ls 2 [(0, .ref qm)] := hl
  refine lv_aload_n hx hb d_M_flip_0 rfl (lv_at hl 0 rfl) ?_
  refine lv_iconst (v := 1) hx hb d_M_flip_1 (by decide) ?_
  refine va_put (D := D) (ci := 5) (v := .int (1)) (ty := .boolean) (C := R_M) (T := F_M) (N := 26) hx hb hts wl_M t_M t_M_ok n_M hown hK hP hD hS 0 rfl rfl 18 (by decide) (hts _ wf_M_97) (fun _ h9 => h9) rfl (by decide +kernel) rfl rfl (Nat.le_of_ble_eq_true rfl) d_M_flip_2 (fun H locs hP hD hS => ?_)
  have hP : va_P D cls (mW cI cZ qm mp mt ml mc mf me mg mh mu (cd) (nI k) (nI n) (nI (pn)) (nI (nx)) (ep) (nI (M.1)) (M.2.2.1) (M.2.2.2) (wi) (2) (1) (tf) (tt) (fi) (ln) (bx) (1000) (pr) (1000) (tk) (8) (le) (576) (co) (576) (fr) (10) (em) (192) (M.2.1) (10) (nb) (10) (su)) H := hP
  have hD : va_D A (mW cI cZ qm mp mt ml mc mf me mg mh mu (cd) (nI k) (nI n) (nI (pn)) (nI (nx)) (ep) (nI (M.1)) (M.2.2.1) (M.2.2.2) (wi) (2) (1) (tf) (tt) (fi) (ln) (bx) (1000) (pr) (1000) (tk) (8) (le) (576) (co) (576) (fr) (10) (em) (192) (M.2.1) (10) (nb) (10) (su)) := hD
  refine lv_aload_n hx hb d_M_flip_5 rfl (lv_at hl 0 rfl) ?_
  refine va_get (D := D) (ci := 5) (v := .int (2)) (C := R_M) (T := F_M) (N := 26) hx hb hts wl_M hown hK hP 0 rfl rfl 17 (by decide) (hts _ wf_M_100) (fun _ h9 => h9) rfl d_M_flip_6 ?_
  refine lv_iconst (v := 1) hx hb d_M_flip_9 (by decide) ?_
  refine lv_icmp_ne (tgt := 26) hx hb d_M_flip_10 rfl (fun hc10 => ?_) (fun hc10 => ?_)
  · skip
    refine lv_aload_n hx hb d_M_flip_26 rfl (lv_at hl 0 rfl) ?_
    refine va_get (D := D) (ci := 5) (v := .int (2)) (C := R_M) (T := F_M) (N := 26) hx hb hts wl_M hown hK hP 0 rfl rfl 17 (by decide) (hts _ wf_M_100) (fun _ h9 => h9) rfl d_M_flip_27 ?_
    refine lv_iconst (v := 3) hx hb d_M_flip_30 (by decide) ?_
    refine lv_icmp_ne (tgt := 47) hx hb d_M_flip_31 rfl (fun hc31 => ?_) (fun hc31 => ?_)
    · skip
      refine lv_iconst (v := 0) hx hb d_M_flip_47 (by decide) ?_
      refine sd_top (y := nI 0) (rfl) ?_
      refine lv_istore_n hx hb d_M_flip_48 rfl hl (Nat.le_of_ble_eq_true rfl) (lv' := [(1, .int (nI 0)), (0, .ref qm)]) rfl (fun ls hl => ?_)
      have hl := lv_sub hl (l' := [(0, .ref qm), (1, .int (nI 0))]) [1, 0] rfl
      have loop49 : ∀ (d : Nat) (j : Nat) (ls : Array Slot) (H : Heap) (locs : List Loc), 576 - j = d → (j ≤ 576) → lv_has ls 2 [(0, .ref qm), (1, .int (nI (j)))] → va_P D cls (mW cI cZ qm mp mt ml mc mf me mg mh mu (cd) (nI k) (nI n) (nI (pn)) (nI (nx)) (ep) (nI (M.1)) (M.2.2.1) (M.2.2.2) (wi) (2) (1) (tf) (tt) (fi) (ln) (bx) (1000) (pr) (1000) (tk) (8) (le) (576) (cp_f fr j co) (576) (fr) (10) (em) (192) (M.2.1) (10) (nb) (10) (su)) H → va_D A (mW cI cZ qm mp mt ml mc mf me mg mh mu (cd) (nI k) (nI n) (nI (pn)) (nI (nx)) (ep) (nI (M.1)) (M.2.2.1) (M.2.2.2) (wi) (2) (1) (tf) (tt) (fi) (ln) (bx) (1000) (pr) (1000) (tk) (8) (le) (576) (cp_f fr j co) (576) (fr) (10) (em) (192) (M.2.1) (10) (nb) (10) (su)) → va_S A s.heap H locs → W p l e ({ frames := 0, cells := 0, slots := 0, locals := 0 }) s m ([.ref qm] : List Value).toArray below meth c H locs 0 0 (MQ below (sd_qv D (mW cI cZ qm mp mt ml mc mf me mg mh mu (cd) (nI k) (nI n) (nI (pn)) (nI (nx)) (ep + 1) (nI (M.1)) (M.2.2.1) (M.2.2.2) (wi) (2) (1) (tf) (tt) (fi) (ln) (bx) (1000) (pr) (1000) (tk) (8) (le) (576) (cp_f fr 576 co) (576) (fr) (10) (em) (192) (M.2.1) (10) (nb) (10) (su)) A) ([.ref qm] : List Value).toArray s 0 0 A) (F0 m 49 ls []) := by
        intro d
        induction d using Nat.strongRecOn with
        | _ d ih49 =>
        intro j ls H locs hd hj hl hP hD hS
        subst hd
        refine lv_iload_n hx hb d_M_flip_49 rfl (lv_at hl 1 rfl) ?_
        refine lv_sipush (v := nI 576) hx hb d_M_flip_50 (by decide) ?_
        refine lv_icmp_ge (tgt := 74) hx hb d_M_flip_53 rfl (fun hc53 => ?_) (fun hc53 => ?_)
        · skip
          rw [nI_leI (by omega) (by omega)] at hc53
          have hj8 : 576 = j := by omega
          subst hj8
          refine lv_aload_n hx hb d_M_flip_74 rfl (lv_at hl 0 rfl) ?_
          refine lv_aload_n hx hb d_M_flip_75 rfl (lv_at hl 0 rfl) ?_
          refine va_get (D := D) (ci := 5) (v := .int (2)) (C := R_M) (T := F_M) (N := 26) hx hb hts wl_M hown hK hP 0 rfl rfl 17 (by decide) (hts _ wf_M_100) (fun _ h9 => h9) rfl d_M_flip_76 ?_
          refine lv_iconst (v := 2) hx hb d_M_flip_79 (by decide) ?_
          refine lv_icmp_ne (tgt := 92) hx hb d_M_flip_80 rfl (fun hc80 => ?_) (fun hc80 => ?_)
          · skip
            exact False.elim (by revert hc80; decide)
          · skip
            refine lv_aload_n hx hb d_M_flip_83 rfl (lv_at hl 0 rfl) ?_
            refine va_get (D := D) (ci := 5) (v := .int (ep)) (C := R_M) (T := F_M) (N := 26) hx hb hts wl_M hown hK hP 0 rfl rfl 10 (by decide) (hts _ wf_M_109) (fun _ h9 => h9) rfl d_M_flip_84 ?_
            refine lv_iconst (v := 1) hx hb d_M_flip_87 (by decide) ?_
            refine lv_iadd hx hb d_M_flip_88 ?_
            refine lv_goto (tgt := 96) hx hb d_M_flip_89 rfl ?_
            refine va_put (D := D) (ci := 5) (v := .int ((ep) + (1))) (ty := .int) (C := R_M) (T := F_M) (N := 26) hx hb hts wl_M t_M t_M_ok n_M hown hK hP hD hS 0 rfl rfl 10 (by decide) (hts _ wf_M_109) (fun _ h9 => h9) rfl (by decide +kernel) rfl rfl (Nat.le_of_ble_eq_true rfl) d_M_flip_96 (fun H locs hP hD hS => ?_)
            have hP : va_P D cls (mW cI cZ qm mp mt ml mc mf me mg mh mu (cd) (nI k) (nI n) (nI (pn)) (nI (nx)) ((ep) + (1)) (nI (M.1)) (M.2.2.1) (M.2.2.2) (wi) (2) (1) (tf) (tt) (fi) (ln) (bx) (1000) (pr) (1000) (tk) (8) (le) (576) (cp_f fr 576 co) (576) (fr) (10) (em) (192) (M.2.1) (10) (nb) (10) (su)) H := hP
            have hD : va_D A (mW cI cZ qm mp mt ml mc mf me mg mh mu (cd) (nI k) (nI n) (nI (pn)) (nI (nx)) ((ep) + (1)) (nI (M.1)) (M.2.2.1) (M.2.2.2) (wi) (2) (1) (tf) (tt) (fi) (ln) (bx) (1000) (pr) (1000) (tk) (8) (le) (576) (cp_f fr 576 co) (576) (fr) (10) (em) (192) (M.2.1) (10) (nb) (10) (su)) := hD
            exact sd_vret hx hb hr hlk hP hS (Nat.le_of_ble_eq_true rfl) (Nat.le_of_ble_eq_true rfl) d_M_flip_99
        · skip
          rw [nI_leI (by omega) (by omega)] at hc53
          refine lv_aload_n hx hb d_M_flip_56 rfl (lv_at hl 0 rfl) ?_
          refine va_get (D := D) (ci := 5) (v := .ref mc) (C := R_M) (T := F_M) (N := 26) hx hb hts wl_M hown hK hP 0 rfl rfl 8 (by decide) (hts _ wf_M_19) (fun _ h9 => h9) rfl d_M_flip_57 ?_
          refine lv_iload_n hx hb d_M_flip_60 rfl (lv_at hl 1 rfl) ?_
          refine lv_aload_n hx hb d_M_flip_61 rfl (lv_at hl 0 rfl) ?_
          refine va_get (D := D) (ci := 5) (v := .ref mf) (C := R_M) (T := F_M) (N := 26) hx hb hts wl_M hown hK hP 0 rfl rfl 9 (by decide) (hts _ wf_M_22) (fun _ h9 => h9) rfl d_M_flip_62 ?_
          refine lv_iload_n hx hb d_M_flip_65 rfl (lv_at hl 1 rfl) ?_
          refine sd_iald (j := j) hx hb hK hP 5 0 rfl rfl (by omega) (by omega) d_M_flip_66 ?_
          refine sd_iast (j := j) hx hb hK hP hD hS 4 0 rfl rfl (by omega) (by omega) d_M_flip_67 (fun H locs hP hD hS => ?_)
          have hP : va_P D cls (mW cI cZ qm mp mt ml mc mf me mg mh mu (cd) (nI k) (nI n) (nI (pn)) (nI (nx)) (ep) (nI (M.1)) (M.2.2.1) (M.2.2.2) (wi) (2) (1) (tf) (tt) (fi) (ln) (bx) (1000) (pr) (1000) (tk) (8) (le) (576) (upd (cp_f fr j co) (j) (fr (j))) (576) (fr) (10) (em) (192) (M.2.1) (10) (nb) (10) (su)) H := hP
          have hD : va_D A (mW cI cZ qm mp mt ml mc mf me mg mh mu (cd) (nI k) (nI n) (nI (pn)) (nI (nx)) (ep) (nI (M.1)) (M.2.2.1) (M.2.2.2) (wi) (2) (1) (tf) (tt) (fi) (ln) (bx) (1000) (pr) (1000) (tk) (8) (le) (576) (upd (cp_f fr j co) (j) (fr (j))) (576) (fr) (10) (em) (192) (M.2.1) (10) (nb) (10) (su)) := hD
          refine lv_iinc hx hb d_M_flip_68 hl (k := 1) rfl (v := nI (j + 1)) (ii_1 _) (Nat.le_of_ble_eq_true rfl) (lv' := [(1, .int (nI (j + 1))), (0, .ref qm)]) rfl (fun ls hl => ?_)
          refine lv_goto (tgt := 49) hx hb d_M_flip_71 rfl ?_
          have hl := lv_sub hl (l' := [(0, .ref qm), (1, .int (nI (j + 1)))]) [1, 0] rfl
          exact ih49 _ (by omega) (j + 1) ls _ _ rfl (by omega) hl hP hD hS
      exact loop49 _ (0) ls _ _ rfl (by omega) hl hP hD hS
    · skip
      exact False.elim (by revert hc31; decide)
  · skip
    exact False.elim (by revert hc10; decide)
set_option maxHeartbeats 4000000 in
set_option maxRecDepth 100000 in
theorem c_M_flip_3 (l : Launch) (D : va_G) (cI cZ cQ : ClassId) (qm : Nat) (mp : Nat) (mt : Nat) (ml : Nat) (mc : Nat) (mf : Nat) (me : Nat) (mg : Nat) (mh : Nat) (mu : Nat) (k : Nat) (n : Nat) (pn : Nat) (nx : Nat) (cd : Int32) (ep : Int32) (M : mm_T) (wi : Int32) (fp : Int32) (tf : Int32) (tt : Int32) (fi : Int32) (ln : Int32) (pr : Nat → Int32) (tk : Nat → Int32) (le : Nat → Int32) (co : Nat → Int32) (fr : Nat → Int32) (em : Nat → Int32) (nb : Nat → Int32) (su : Nat → Int32) (x : Nat) (hk : k ≤ 9) (hn : n ≤ 9) (hx9 : x ≤ 9) : sd_V l D (tyL cI cZ cQ) y_M_flip b_M_flip 2 ({ frames := 0, cells := 0, slots := 0, locals := 0 }) [.ref qm] (mW cI cZ qm mp mt ml mc mf me mg mh mu (cd) (nI k) (nI n) (nI (pn)) (nI (nx)) (ep) (nI (M.1)) (M.2.2.1) (M.2.2.2) (wi) (3) (fp) (tf) (tt) (fi) (ln) (nI x) (1000) (pr) (1000) (tk) (8) (le) (576) (co) (576) (fr) (10) (em) (192) (M.2.1) (10) (nb) (10) (su)) (mW cI cZ qm mp mt ml mc mf me mg mh mu (cd) (nI k) (nI n) (nI (pn)) (nI (nx)) (ep) (nI (M.1)) (M.2.2.1) (M.2.2.2) (wi) (3) (1) (tf) (tt) (fi) (ln) (nI x) (1000) (pr) (1000) (tk) (8) (le) (576) (co) (576) (fr) (10) (upd em x 0) (192) (M.2.1) (10) (nb) (10) (su)) := by
  refine sd_ofV (by decide) (Nat.le_of_ble_eq_true rfl) ?_
  intro p e s m below meth c A ls hx hb hr hml hlk hown hts hK hP hD hA hS hl
  have hl : lv_has ls 2 [(0, .ref qm)] := hl
  refine lv_aload_n hx hb d_M_flip_0 rfl (lv_at hl 0 rfl) ?_
  refine lv_iconst (v := 1) hx hb d_M_flip_1 (by decide) ?_
  refine va_put (D := D) (ci := 5) (v := .int (1)) (ty := .boolean) (C := R_M) (T := F_M) (N := 26) hx hb hts wl_M t_M t_M_ok n_M hown hK hP hD hS 0 rfl rfl 18 (by decide) (hts _ wf_M_97) (fun _ h9 => h9) rfl (by decide +kernel) rfl rfl (Nat.le_of_ble_eq_true rfl) d_M_flip_2 (fun H locs hP hD hS => ?_)
  have hP : va_P D cls (mW cI cZ qm mp mt ml mc mf me mg mh mu (cd) (nI k) (nI n) (nI (pn)) (nI (nx)) (ep) (nI (M.1)) (M.2.2.1) (M.2.2.2) (wi) (3) (1) (tf) (tt) (fi) (ln) (nI x) (1000) (pr) (1000) (tk) (8) (le) (576) (co) (576) (fr) (10) (em) (192) (M.2.1) (10) (nb) (10) (su)) H := hP
  have hD : va_D A (mW cI cZ qm mp mt ml mc mf me mg mh mu (cd) (nI k) (nI n) (nI (pn)) (nI (nx)) (ep) (nI (M.1)) (M.2.2.1) (M.2.2.2) (wi) (3) (1) (tf) (tt) (fi) (ln) (nI x) (1000) (pr) (1000) (tk) (8) (le) (576) (co) (576) (fr) (10) (em) (192) (M.2.1) (10) (nb) (10) (su)) := hD
  refine lv_aload_n hx hb d_M_flip_5 rfl (lv_at hl 0 rfl) ?_
  refine va_get (D := D) (ci := 5) (v := .int (3)) (C := R_M) (T := F_M) (N := 26) hx hb hts wl_M hown hK hP 0 rfl rfl 17 (by decide) (hts _ wf_M_100) (fun _ h9 => h9) rfl d_M_flip_6 ?_
  refine lv_iconst (v := 1) hx hb d_M_flip_9 (by decide) ?_
  refine lv_icmp_ne (tgt := 26) hx hb d_M_flip_10 rfl (fun hc10 => ?_) (fun hc10 => ?_)
  · skip
    refine lv_aload_n hx hb d_M_flip_26 rfl (lv_at hl 0 rfl) ?_
    refine va_get (D := D) (ci := 5) (v := .int (3)) (C := R_M) (T := F_M) (N := 26) hx hb hts wl_M hown hK hP 0 rfl rfl 17 (by decide) (hts _ wf_M_100) (fun _ h9 => h9) rfl d_M_flip_27 ?_
    refine lv_iconst (v := 3) hx hb d_M_flip_30 (by decide) ?_
    refine lv_icmp_ne (tgt := 47) hx hb d_M_flip_31 rfl (fun hc31 => ?_) (fun hc31 => ?_)
    · skip
      exact False.elim (by revert hc31; decide)
    · skip
      refine lv_aload_n hx hb d_M_flip_34 rfl (lv_at hl 0 rfl) ?_
      refine va_get (D := D) (ci := 5) (v := .ref me) (C := R_M) (T := F_M) (N := 26) hx hb hts wl_M hown hK hP 0 rfl rfl 11 (by decide) (hts _ wf_M_25) (fun _ h9 => h9) rfl d_M_flip_35 ?_
      refine lv_aload_n hx hb d_M_flip_38 rfl (lv_at hl 0 rfl) ?_
      refine va_get (D := D) (ci := 5) (v := .int (nI x)) (C := R_M) (T := F_M) (N := 26) hx hb hts wl_M hown hK hP 0 rfl rfl 23 (by decide) (hts _ wf_M_85) (fun _ h9 => h9) rfl d_M_flip_39 ?_
      refine lv_iconst (v := 0) hx hb d_M_flip_42 (by decide) ?_
      refine sd_zast (j := x) hx hb hK hP hD hS 6 1 rfl rfl (by decide) (by omega) (by omega) d_M_flip_43 (fun H locs hP hD hS => ?_)
      have hP : va_P D cls (mW cI cZ qm mp mt ml mc mf me mg mh mu (cd) (nI k) (nI n) (nI (pn)) (nI (nx)) (ep) (nI (M.1)) (M.2.2.1) (M.2.2.2) (wi) (3) (1) (tf) (tt) (fi) (ln) (nI x) (1000) (pr) (1000) (tk) (8) (le) (576) (co) (576) (fr) (10) (upd (em) (x) (0)) (192) (M.2.1) (10) (nb) (10) (su)) H := hP
      have hD : va_D A (mW cI cZ qm mp mt ml mc mf me mg mh mu (cd) (nI k) (nI n) (nI (pn)) (nI (nx)) (ep) (nI (M.1)) (M.2.2.1) (M.2.2.2) (wi) (3) (1) (tf) (tt) (fi) (ln) (nI x) (1000) (pr) (1000) (tk) (8) (le) (576) (co) (576) (fr) (10) (upd (em) (x) (0)) (192) (M.2.1) (10) (nb) (10) (su)) := hD
      refine lv_goto (tgt := 74) hx hb d_M_flip_44 rfl ?_
      refine lv_aload_n hx hb d_M_flip_74 rfl (lv_at hl 0 rfl) ?_
      refine lv_aload_n hx hb d_M_flip_75 rfl (lv_at hl 0 rfl) ?_
      refine va_get (D := D) (ci := 5) (v := .int (3)) (C := R_M) (T := F_M) (N := 26) hx hb hts wl_M hown hK hP 0 rfl rfl 17 (by decide) (hts _ wf_M_100) (fun _ h9 => h9) rfl d_M_flip_76 ?_
      refine lv_iconst (v := 2) hx hb d_M_flip_79 (by decide) ?_
      refine lv_icmp_ne (tgt := 92) hx hb d_M_flip_80 rfl (fun hc80 => ?_) (fun hc80 => ?_)
      · skip
        refine lv_aload_n hx hb d_M_flip_92 rfl (lv_at hl 0 rfl) ?_
        refine va_get (D := D) (ci := 5) (v := .int (ep)) (C := R_M) (T := F_M) (N := 26) hx hb hts wl_M hown hK hP 0 rfl rfl 10 (by decide) (hts _ wf_M_109) (fun _ h9 => h9) rfl d_M_flip_93 ?_
        refine va_put (D := D) (ci := 5) (v := .int (ep)) (ty := .int) (C := R_M) (T := F_M) (N := 26) hx hb hts wl_M t_M t_M_ok n_M hown hK hP hD hS 0 rfl rfl 10 (by decide) (hts _ wf_M_109) (fun _ h9 => h9) rfl (by decide +kernel) rfl rfl (Nat.le_of_ble_eq_true rfl) d_M_flip_96 (fun H locs hP hD hS => ?_)
        have hP : va_P D cls (mW cI cZ qm mp mt ml mc mf me mg mh mu (cd) (nI k) (nI n) (nI (pn)) (nI (nx)) (ep) (nI (M.1)) (M.2.2.1) (M.2.2.2) (wi) (3) (1) (tf) (tt) (fi) (ln) (nI x) (1000) (pr) (1000) (tk) (8) (le) (576) (co) (576) (fr) (10) (upd (em) (x) (0)) (192) (M.2.1) (10) (nb) (10) (su)) H := hP
        have hD : va_D A (mW cI cZ qm mp mt ml mc mf me mg mh mu (cd) (nI k) (nI n) (nI (pn)) (nI (nx)) (ep) (nI (M.1)) (M.2.2.1) (M.2.2.2) (wi) (3) (1) (tf) (tt) (fi) (ln) (nI x) (1000) (pr) (1000) (tk) (8) (le) (576) (co) (576) (fr) (10) (upd (em) (x) (0)) (192) (M.2.1) (10) (nb) (10) (su)) := hD
        exact sd_vret hx hb hr hlk hP hS (Nat.le_of_ble_eq_true rfl) (Nat.le_of_ble_eq_true rfl) d_M_flip_99
      · skip
        exact False.elim (by revert hc80; decide)
  · skip
    exact False.elim (by revert hc10; decide)
end
section
def zs_f : Nat → (Nat → Int32) → Nat → Int32
  | 0, su => su
  | h + 1, su => upd (zs_f h su) h 0
theorem gf_Re {x : Nat → BitVec 8} {y : BitVec 8} {g h : Nat} {v : BitVec 8} (hg : h = g) : gf_R x y g v (h + 1) = gf_R x y g v h := if_pos hg
theorem gf_Rn {x : Nat → BitVec 8} {y : BitVec 8} {g h : Nat} {v : BitVec 8} (hg : ¬ h = g) : gf_R x y g v (h + 1) = gf_m (gf_R x y g v h) (gf_m (y ^^^ x h) (gf_i (x g ^^^ x h))) := if_neg hg
/-- helper g's term -/
def mv_f (cb xb : Nat → BitVec 8) (y : BitVec 8) (k g : Nat) : Int32 := bI (gf_R xb y g (gf_h cb (xb g) k 0#8) k)
/-- what the pieces of one term do: (bytes taken, the rest, the sums, the messages) -/
abbrev mb_T : Type := Nat × Int32 × (Nat → Int32) × mm_T
def mb_s (tk : Nat → Int32) (nx k : Nat) (nb : Nat → Int32) (g h : Nat) (S : mb_T) : mb_T :=
  (if h = k - 1 then S.1 else S.1 + 1, S.2.1 ^^^ (if h = k - 1 then S.2.1 else tk (nx + S.1)), upd S.2.2.1 h (S.2.2.1 h ^^^ (if h = k - 1 then S.2.1 else tk (nx + S.1))), mm_s S.2.2.2 (nb g) (nb h) (if h = k - 1 then S.2.1 else tk (nx + S.1)))
def mb_i (tk : Nat → Int32) (nx k : Nat) (nb : Nat → Int32) (g : Nat) : Nat → mb_T → mb_T
  | 0, S => S
  | h + 1, S => mb_s tk nx k nb g h (mb_i tk nx k nb g h S)
def mb_o (tk : Nat → Int32) (nx k : Nat) (nb : Nat → Int32) (tm : Nat → Int32) : Nat → Nat × (Nat → Int32) × mm_T → Nat × (Nat → Int32) × mm_T
  | 0, S => S
  | g + 1, S => ((mb_i tk nx k nb g k ((mb_o tk nx k nb tm g S).1, tm g, (mb_o tk nx k nb tm g S).2.1, (mb_o tk nx k nb tm g S).2.2)).1, (mb_i tk nx k nb g k ((mb_o tk nx k nb tm g S).1, tm g, (mb_o tk nx k nb tm g S).2.1, (mb_o tk nx k nb tm g S).2.2)).2.2.1, (mb_i tk nx k nb g k ((mb_o tk nx k nb tm g S).1, tm g, (mb_o tk nx k nb tm g S).2.1, (mb_o tk nx k nb tm g S).2.2)).2.2.2)
def mb_e (su nb : Nat → Int32) (x : Int32) : Nat → mm_T → mm_T
  | 0, M => M
  | h + 1, M => mm_s (mb_e su nb x h M) (nb h) x (su h)
theorem mb_i1 (tk : Nat → Int32) (nx k : Nat) (nb : Nat → Int32) (g h : Nat) (S : mb_T) (hk : h ≤ k) : (mb_i tk nx k nb g h S).1 = S.1 + min h (k - 1) := by
  induction h with
  | zero => show S.1 = S.1 + min 0 (k - 1); omega
  | succ h ih =>
    show (if h = k - 1 then (mb_i tk nx k nb g h S).1 else (mb_i tk nx k nb g h S).1 + 1) = S.1 + min (h + 1) (k - 1)
    by_cases h1 : h = k - 1
    · rw [if_pos h1, ih (by omega)]; omega
    · rw [if_neg h1, ih (by omega)]; omega
theorem mb_i2 (tk : Nat → Int32) (nx k : Nat) (nb : Nat → Int32) (g h : Nat) (S : mb_T) : (mb_i tk nx k nb g h S).2.2.2.1 ≤ S.2.2.2.1 + h := by
  induction h with
  | zero => exact Nat.le_refl _
  | succ h ih =>
    have := mm_b (mb_i tk nx k nb g h S).2.2.2 (nb g) (nb h) (if h = k - 1 then (mb_i tk nx k nb g h S).2.1 else tk (nx + (mb_i tk nx k nb g h S).1))
    show (mm_s (mb_i tk nx k nb g h S).2.2.2 (nb g) (nb h) (if h = k - 1 then (mb_i tk nx k nb g h S).2.1 else tk (nx + (mb_i tk nx k nb g h S).1))).1 ≤ _
    omega
theorem mb_o1 (tk : Nat → Int32) (nx k : Nat) (nb : Nat → Int32) (tm : Nat → Int32) (g : Nat) (su : Nat → Int32) (M : mm_T) : (mb_o tk nx k nb tm g (0, su, M)).1 = g * (k - 1) := by
  induction g with
  | zero => show 0 = 0 * (k - 1); omega
  | succ g ih =>
    have h := mb_i1 tk nx k nb g k ((mb_o tk nx k nb tm g (0, su, M)).1, tm g, (mb_o tk nx k nb tm g (0, su, M)).2.1, (mb_o tk nx k nb tm g (0, su, M)).2.2) (Nat.le_refl k)
    show (mb_i tk nx k nb g k ((mb_o tk nx k nb tm g (0, su, M)).1, tm g, (mb_o tk nx k nb tm g (0, su, M)).2.1, (mb_o tk nx k nb tm g (0, su, M)).2.2)).1 = _
    rw [h, Nat.add_mul, Nat.one_mul]
    show (mb_o tk nx k nb tm g (0, su, M)).1 + min k (k - 1) = _
    rw [ih]; omega
theorem mb_o2 (tk : Nat → Int32) (nx k : Nat) (nb : Nat → Int32) (tm : Nat → Int32) (g : Nat) (S : Nat × (Nat → Int32) × mm_T) : (mb_o tk nx k nb tm g S).2.2.1 ≤ S.2.2.1 + g * k := by
  induction g with
  | zero => show S.2.2.1 ≤ S.2.2.1 + 0 * k; omega
  | succ g ih =>
    have h := mb_i2 tk nx k nb g k ((mb_o tk nx k nb tm g S).1, tm g, (mb_o tk nx k nb tm g S).2.1, (mb_o tk nx k nb tm g S).2.2)
    show (mb_i tk nx k nb g k ((mb_o tk nx k nb tm g S).1, tm g, (mb_o tk nx k nb tm g S).2.1, (mb_o tk nx k nb tm g S).2.2)).2.2.2.1 ≤ _
    rw [Nat.add_mul, Nat.one_mul]
    dsimp only at h
    omega
theorem mb_e2 (su nb : Nat → Int32) (x : Int32) (h : Nat) (M : mm_T) : (mb_e su nb x h M).1 ≤ M.1 + h := by
  induction h with
  | zero => exact Nat.le_refl _
  | succ h ih =>
    have := mm_b (mb_e su nb x h M) (nb h) x (su h)
    show (mm_s (mb_e su nb x h M) (nb h) x (su h)).1 ≤ _
    omega
theorem d_M_build_0 : decode b_M_build 0 = .ok (.bipush 9, 2) := by decide +kernel
theorem d_M_build_2 : decode b_M_build 2 = .ok (.bipush 8, 2) := by decide +kernel
theorem d_M_build_4 : decode b_M_build 4 = .ok (.iload_n 1, 1) := by decide +kernel
theorem d_M_build_5 : decode b_M_build 5 = .ok (.imul, 1) := by decide +kernel
theorem d_M_build_6 : decode b_M_build 6 = .ok (.iload_n 2, 1) := by decide +kernel
theorem d_M_build_7 : decode b_M_build 7 = .ok (.iadd, 1) := by decide +kernel
theorem d_M_build_8 : decode b_M_build 8 = .ok (.imul, 1) := by decide +kernel
theorem d_M_build_9 : decode b_M_build 9 = .ok (.istore_n 3, 1) := by decide +kernel
theorem d_M_build_10 : decode b_M_build 10 = .ok (.iconst 0, 1) := by decide +kernel
theorem d_M_build_11 : decode b_M_build 11 = .ok (.istore 4, 2) := by decide +kernel
theorem d_M_build_13 : decode b_M_build 13 = .ok (.iload 4, 2) := by decide +kernel
theorem d_M_build_15 : decode b_M_build 15 = .ok (.aload_n 0, 1) := by decide +kernel
theorem d_M_build_16 : decode b_M_build 16 = .ok (.getfield 48, 3) := by decide +kernel
theorem d_M_build_19 : decode b_M_build 19 = .ok (.if_icmp .ge 17, 3) := by decide +kernel
theorem d_M_build_22 : decode b_M_build 22 = .ok (.aload_n 0, 1) := by decide +kernel
theorem d_M_build_23 : decode b_M_build 23 = .ok (.getfield 42, 3) := by decide +kernel
theorem d_M_build_26 : decode b_M_build 26 = .ok (.iload 4, 2) := by decide +kernel
theorem d_M_build_28 : decode b_M_build 28 = .ok (.iconst 0, 1) := by decide +kernel
theorem d_M_build_29 : decode b_M_build 29 = .ok (.iastore, 1) := by decide +kernel
theorem d_M_build_30 : decode b_M_build 30 = .ok (.iinc 4 1, 3) := by decide +kernel
theorem d_M_build_33 : decode b_M_build 33 = .ok (.goto (-20), 3) := by decide +kernel
theorem d_M_build_36 : decode b_M_build 36 = .ok (.iconst 0, 1) := by decide +kernel
theorem d_M_build_37 : decode b_M_build 37 = .ok (.istore 4, 2) := by decide +kernel
theorem d_M_build_39 : decode b_M_build 39 = .ok (.iload 4, 2) := by decide +kernel
theorem d_M_build_41 : decode b_M_build 41 = .ok (.aload_n 0, 1) := by decide +kernel
theorem d_M_build_42 : decode b_M_build 42 = .ok (.getfield 48, 3) := by decide +kernel
theorem d_M_build_45 : decode b_M_build 45 = .ok (.if_icmp .ge 178, 3) := by decide +kernel
theorem d_M_build_48 : decode b_M_build 48 = .ok (.aload_n 0, 1) := by decide +kernel
theorem d_M_build_49 : decode b_M_build 49 = .ok (.aload_n 0, 1) := by decide +kernel
theorem d_M_build_50 : decode b_M_build 50 = .ok (.getfield 19, 3) := by decide +kernel
theorem d_M_build_53 : decode b_M_build 53 = .ok (.iload_n 3, 1) := by decide +kernel
theorem d_M_build_54 : decode b_M_build 54 = .ok (.aload_n 0, 1) := by decide +kernel
theorem d_M_build_55 : decode b_M_build 55 = .ok (.getfield 39, 3) := by decide +kernel
theorem d_M_build_58 : decode b_M_build 58 = .ok (.iload 4, 2) := by decide +kernel
theorem d_M_build_60 : decode b_M_build 60 = .ok (.iaload, 1) := by decide +kernel
theorem d_M_build_61 : decode b_M_build 61 = .ok (.invokevirtual 77, 3) := by decide +kernel
theorem d_M_build_64 : decode b_M_build 64 = .ok (.istore 5, 2) := by decide +kernel
theorem d_M_build_66 : decode b_M_build 66 = .ok (.iconst 0, 1) := by decide +kernel
theorem d_M_build_67 : decode b_M_build 67 = .ok (.istore 6, 2) := by decide +kernel
theorem d_M_build_69 : decode b_M_build 69 = .ok (.iload 6, 2) := by decide +kernel
theorem d_M_build_71 : decode b_M_build 71 = .ok (.aload_n 0, 1) := by decide +kernel
theorem d_M_build_72 : decode b_M_build 72 = .ok (.getfield 48, 3) := by decide +kernel
theorem d_M_build_75 : decode b_M_build 75 = .ok (.if_icmp .ge 58, 3) := by decide +kernel
theorem d_M_build_78 : decode b_M_build 78 = .ok (.iload 6, 2) := by decide +kernel
theorem d_M_build_80 : decode b_M_build 80 = .ok (.iload 4, 2) := by decide +kernel
theorem d_M_build_82 : decode b_M_build 82 = .ok (.if_icmp .ne 8, 3) := by decide +kernel
theorem d_M_build_85 : decode b_M_build 85 = .ok (.iload 5, 2) := by decide +kernel
theorem d_M_build_87 : decode b_M_build 87 = .ok (.goto 38, 3) := by decide +kernel
theorem d_M_build_90 : decode b_M_build 90 = .ok (.iload 5, 2) := by decide +kernel
theorem d_M_build_92 : decode b_M_build 92 = .ok (.aload_n 0, 1) := by decide +kernel
theorem d_M_build_93 : decode b_M_build 93 = .ok (.getfield 85, 3) := by decide +kernel
theorem d_M_build_96 : decode b_M_build 96 = .ok (.aload_n 0, 1) := by decide +kernel
theorem d_M_build_97 : decode b_M_build 97 = .ok (.getfield 39, 3) := by decide +kernel
theorem d_M_build_100 : decode b_M_build 100 = .ok (.iload 6, 2) := by decide +kernel
theorem d_M_build_102 : decode b_M_build 102 = .ok (.iaload, 1) := by decide +kernel
theorem d_M_build_103 : decode b_M_build 103 = .ok (.ixor, 1) := by decide +kernel
theorem d_M_build_104 : decode b_M_build 104 = .ok (.aload_n 0, 1) := by decide +kernel
theorem d_M_build_105 : decode b_M_build 105 = .ok (.getfield 39, 3) := by decide +kernel
theorem d_M_build_108 : decode b_M_build 108 = .ok (.iload 4, 2) := by decide +kernel
theorem d_M_build_110 : decode b_M_build 110 = .ok (.iaload, 1) := by decide +kernel
theorem d_M_build_111 : decode b_M_build 111 = .ok (.aload_n 0, 1) := by decide +kernel
theorem d_M_build_112 : decode b_M_build 112 = .ok (.getfield 39, 3) := by decide +kernel
theorem d_M_build_115 : decode b_M_build 115 = .ok (.iload 6, 2) := by decide +kernel
theorem d_M_build_117 : decode b_M_build 117 = .ok (.iaload, 1) := by decide +kernel
theorem d_M_build_118 : decode b_M_build 118 = .ok (.ixor, 1) := by decide +kernel
theorem d_M_build_119 : decode b_M_build 119 = .ok (.invokestatic 88, 3) := by decide +kernel
theorem d_M_build_122 : decode b_M_build 122 = .ok (.invokestatic 54, 3) := by decide +kernel
theorem d_M_build_125 : decode b_M_build 125 = .ok (.istore 5, 2) := by decide +kernel
theorem d_M_build_127 : decode b_M_build 127 = .ok (.iinc 6 1, 3) := by decide +kernel
theorem d_M_build_130 : decode b_M_build 130 = .ok (.goto (-61), 3) := by decide +kernel
theorem d_M_build_133 : decode b_M_build 133 = .ok (.iconst 0, 1) := by decide +kernel
theorem d_M_build_134 : decode b_M_build 134 = .ok (.istore 6, 2) := by decide +kernel
theorem d_M_build_136 : decode b_M_build 136 = .ok (.iload 6, 2) := by decide +kernel
theorem d_M_build_138 : decode b_M_build 138 = .ok (.aload_n 0, 1) := by decide +kernel
theorem d_M_build_139 : decode b_M_build 139 = .ok (.getfield 48, 3) := by decide +kernel
theorem d_M_build_142 : decode b_M_build 142 = .ok (.if_icmp .ge 75, 3) := by decide +kernel
theorem d_M_build_145 : decode b_M_build 145 = .ok (.iload 6, 2) := by decide +kernel
theorem d_M_build_147 : decode b_M_build 147 = .ok (.aload_n 0, 1) := by decide +kernel
theorem d_M_build_148 : decode b_M_build 148 = .ok (.getfield 48, 3) := by decide +kernel
theorem d_M_build_151 : decode b_M_build 151 = .ok (.iconst 1, 1) := by decide +kernel
theorem d_M_build_152 : decode b_M_build 152 = .ok (.isub, 1) := by decide +kernel
theorem d_M_build_153 : decode b_M_build 153 = .ok (.if_icmp .ne 8, 3) := by decide +kernel
theorem d_M_build_156 : decode b_M_build 156 = .ok (.iload 5, 2) := by decide +kernel
theorem d_M_build_158 : decode b_M_build 158 = .ok (.goto 7, 3) := by decide +kernel
theorem d_M_build_161 : decode b_M_build 161 = .ok (.aload_n 0, 1) := by decide +kernel
theorem d_M_build_162 : decode b_M_build 162 = .ok (.invokevirtual 73, 3) := by decide +kernel
theorem d_M_build_165 : decode b_M_build 165 = .ok (.istore 7, 2) := by decide +kernel
theorem d_M_build_167 : decode b_M_build 167 = .ok (.iload 5, 2) := by decide +kernel
theorem d_M_build_169 : decode b_M_build 169 = .ok (.iload 7, 2) := by decide +kernel
theorem d_M_build_171 : decode b_M_build 171 = .ok (.ixor, 1) := by decide +kernel
theorem d_M_build_172 : decode b_M_build 172 = .ok (.istore 5, 2) := by decide +kernel
theorem d_M_build_174 : decode b_M_build 174 = .ok (.aload_n 0, 1) := by decide +kernel
theorem d_M_build_175 : decode b_M_build 175 = .ok (.getfield 42, 3) := by decide +kernel
theorem d_M_build_178 : decode b_M_build 178 = .ok (.iload 6, 2) := by decide +kernel
theorem d_M_build_180 : decode b_M_build 180 = .ok (.aload_n 0, 1) := by decide +kernel
theorem d_M_build_181 : decode b_M_build 181 = .ok (.getfield 42, 3) := by decide +kernel
theorem d_M_build_184 : decode b_M_build 184 = .ok (.iload 6, 2) := by decide +kernel
theorem d_M_build_186 : decode b_M_build 186 = .ok (.iaload, 1) := by decide +kernel
theorem d_M_build_187 : decode b_M_build 187 = .ok (.iload 7, 2) := by decide +kernel
theorem d_M_build_189 : decode b_M_build 189 = .ok (.ixor, 1) := by decide +kernel
theorem d_M_build_190 : decode b_M_build 190 = .ok (.iastore, 1) := by decide +kernel
theorem d_M_build_191 : decode b_M_build 191 = .ok (.aload_n 0, 1) := by decide +kernel
theorem d_M_build_192 : decode b_M_build 192 = .ok (.aload_n 0, 1) := by decide +kernel
theorem d_M_build_193 : decode b_M_build 193 = .ok (.getfield 39, 3) := by decide +kernel
theorem d_M_build_196 : decode b_M_build 196 = .ok (.iload 4, 2) := by decide +kernel
theorem d_M_build_198 : decode b_M_build 198 = .ok (.iaload, 1) := by decide +kernel
theorem d_M_build_199 : decode b_M_build 199 = .ok (.aload_n 0, 1) := by decide +kernel
theorem d_M_build_200 : decode b_M_build 200 = .ok (.getfield 39, 3) := by decide +kernel
theorem d_M_build_203 : decode b_M_build 203 = .ok (.iload 6, 2) := by decide +kernel
theorem d_M_build_205 : decode b_M_build 205 = .ok (.iaload, 1) := by decide +kernel
theorem d_M_build_206 : decode b_M_build 206 = .ok (.iload 7, 2) := by decide +kernel
theorem d_M_build_208 : decode b_M_build 208 = .ok (.invokevirtual 81, 3) := by decide +kernel
theorem d_M_build_211 : decode b_M_build 211 = .ok (.iinc 6 1, 3) := by decide +kernel
theorem d_M_build_214 : decode b_M_build 214 = .ok (.goto (-78), 3) := by decide +kernel
theorem d_M_build_217 : decode b_M_build 217 = .ok (.iinc 4 1, 3) := by decide +kernel
theorem d_M_build_220 : decode b_M_build 220 = .ok (.goto (-181), 3) := by decide +kernel
theorem d_M_build_223 : decode b_M_build 223 = .ok (.iconst 0, 1) := by decide +kernel
theorem d_M_build_224 : decode b_M_build 224 = .ok (.istore 4, 2) := by decide +kernel
theorem d_M_build_226 : decode b_M_build 226 = .ok (.iload 4, 2) := by decide +kernel
theorem d_M_build_228 : decode b_M_build 228 = .ok (.aload_n 0, 1) := by decide +kernel
theorem d_M_build_229 : decode b_M_build 229 = .ok (.getfield 48, 3) := by decide +kernel
theorem d_M_build_232 : decode b_M_build 232 = .ok (.if_icmp .ge 31, 3) := by decide +kernel
theorem d_M_build_235 : decode b_M_build 235 = .ok (.aload_n 0, 1) := by decide +kernel
theorem d_M_build_236 : decode b_M_build 236 = .ok (.aload_n 0, 1) := by decide +kernel
theorem d_M_build_237 : decode b_M_build 237 = .ok (.getfield 39, 3) := by decide +kernel
theorem d_M_build_240 : decode b_M_build 240 = .ok (.iload 4, 2) := by decide +kernel
theorem d_M_build_242 : decode b_M_build 242 = .ok (.iaload, 1) := by decide +kernel
theorem d_M_build_243 : decode b_M_build 243 = .ok (.aload_n 0, 1) := by decide +kernel
theorem d_M_build_244 : decode b_M_build 244 = .ok (.getfield 85, 3) := by decide +kernel
theorem d_M_build_247 : decode b_M_build 247 = .ok (.aload_n 0, 1) := by decide +kernel
theorem d_M_build_248 : decode b_M_build 248 = .ok (.getfield 42, 3) := by decide +kernel
theorem d_M_build_251 : decode b_M_build 251 = .ok (.iload 4, 2) := by decide +kernel
theorem d_M_build_253 : decode b_M_build 253 = .ok (.iaload, 1) := by decide +kernel
theorem d_M_build_254 : decode b_M_build 254 = .ok (.invokevirtual 81, 3) := by decide +kernel
theorem d_M_build_257 : decode b_M_build 257 = .ok (.iinc 4 1, 3) := by decide +kernel
theorem d_M_build_260 : decode b_M_build 260 = .ok (.goto (-34), 3) := by decide +kernel
theorem d_M_build_263 : decode b_M_build 263 = .ok (.return_, 1) := by decide +kernel
set_option maxHeartbeats 4000000 in
set_option maxRecDepth 100000 in
theorem c_M_build (l : Launch) (D : va_G) (cI cZ cQ : ClassId) (qm : Nat) (mp : Nat) (mt : Nat) (ml : Nat) (mc : Nat) (mf : Nat) (me : Nat) (mg : Nat) (mh : Nat) (mu : Nat) (k : Nat) (n : Nat) (pn : Nat) (nx : Nat) (cd : Int32) (ep : Int32) (M : mm_T) (wi : Int32) (jb : Int32) (fp : Int32) (tf : Int32) (tt : Int32) (fi : Int32) (ln : Int32) (pr : Nat → Int32) (tk : Nat → Int32) (le : Nat → Int32) (co : Nat → Int32) (fr : Nat → Int32) (em : Nat → Int32) (nb : Nat → Int32) (su : Nat → Int32) (f : Nat) (b : Nat) (cb : Nat → BitVec 8) (xb : Nat → BitVec 8) (y : BitVec 8) (hk : k ≤ 9) (hn : n ≤ 9) (hf8 : f < 8) (hb8 : b < 8) (hk1 : 1 ≤ k) (hnx : nx + k * (k - 1) ≤ 1000) (hco : ∀ j, j < k → co (9 * (8 * f + b) + j) = bI (cb j)) (hxb : ∀ j, j < k → nb j = bI (xb j)) (hxd : ∀ i j, i < k → j < k → xb i = xb j → i = j) (hT : M.1 + (k * k + k) < 2 ^ 31) : sd_V l D (tyL cI cZ cQ) y_M_build b_M_build 8 ({ frames := 2, cells := 0, slots := 0, locals := 48 }) [.ref qm, .int (nI f), .int (nI b)] (mW cI cZ qm mp mt ml mc mf me mg mh mu (cd) (nI k) (nI n) (nI (pn)) (nI (nx)) (ep) (nI (M.1)) (M.2.2.1) (M.2.2.2) (wi) (jb) (fp) (tf) (tt) (fi) (ln) (bI y) (1000) (pr) (1000) (tk) (8) (le) (576) (co) (576) (fr) (10) (em) (192) (M.2.1) (10) (nb) (10) (su)) (mW cI cZ qm mp mt ml mc mf me mg mh mu (cd) (nI k) (nI n) (nI (pn)) (nI (nx + (mb_o tk nx k nb (mv_f cb xb y k) k (0, zs_f k su, M)).1)) (ep) (nI ((mb_e (mb_o tk nx k nb (mv_f cb xb y k) k (0, zs_f k su, M)).2.1 nb (bI y) k (mb_o tk nx k nb (mv_f cb xb y k) k (0, zs_f k su, M)).2.2).1)) ((mb_e (mb_o tk nx k nb (mv_f cb xb y k) k (0, zs_f k su, M)).2.1 nb (bI y) k (mb_o tk nx k nb (mv_f cb xb y k) k (0, zs_f k su, M)).2.2).2.2.1) ((mb_e (mb_o tk nx k nb (mv_f cb xb y k) k (0, zs_f k su, M)).2.1 nb (bI y) k (mb_o tk nx k nb (mv_f cb xb y k) k (0, zs_f k su, M)).2.2).2.2.2) (wi) (jb) (fp) (tf) (tt) (fi) (ln) (bI y) (1000) (pr) (1000) (tk) (8) (le) (576) (co) (576) (fr) (10) (em) (192) ((mb_e (mb_o tk nx k nb (mv_f cb xb y k) k (0, zs_f k su, M)).2.1 nb (bI y) k (mb_o tk nx k nb (mv_f cb xb y k) k (0, zs_f k su, M)).2.2).2.1) (10) (nb) (10) ((mb_o tk nx k nb (mv_f cb xb y k) k (0, zs_f k su, M)).2.1)) := by
  refine sd_ofV (by decide) (Nat.le_of_ble_eq_true rfl) ?_
  intro p e s m below meth c A ls hx hb hr hml hlk hown hts hK hP hD hA hS hl
  have hl : lv_has ls 8 [(0, .ref qm), (1, .int (nI f)), (2, .int (nI b))] := hl
  refine lv_bipush (v := nI 9) hx hb d_M_build_0 (by decide) ?_
  refine lv_bipush (v := nI 8) hx hb d_M_build_2 (by decide) ?_
  refine lv_iload_n hx hb d_M_build_4 rfl (lv_at hl 1 rfl) ?_
  refine lv_imul hx hb d_M_build_5 ?_
  refine sd_top (y := nI (8 * f)) (pk_mul _ _) ?_
  refine lv_iload_n hx hb d_M_build_6 rfl (lv_at hl 2 rfl) ?_
  refine lv_iadd hx hb d_M_build_7 ?_
  refine sd_top (y := nI (8 * f + b)) (nI_add _ _) ?_
  refine lv_imul hx hb d_M_build_8 ?_
  refine sd_top (y := nI (9 * (8 * f + b))) (pk_mul _ _) ?_
  refine lv_istore_n hx hb d_M_build_9 rfl hl (Nat.le_of_ble_eq_true rfl) (lv' := [(3, .int (nI (9 * (8 * f + b)))), (0, .ref qm), (1, .int (nI f)), (2, .int (nI b))]) rfl (fun ls hl => ?_)
  refine lv_iconst (v := 0) hx hb d_M_build_10 (by decide) ?_
  refine sd_top (y := nI 0) (rfl) ?_
  refine lv_istore hx hb d_M_build_11 hl (Nat.le_of_ble_eq_true rfl) (lv' := [(4, .int (nI 0)), (3, .int (nI (9 * (8 * f + b)))), (0, .ref qm), (1, .int (nI f)), (2, .int (nI b))]) rfl (fun ls hl => ?_)
  have hl := lv_sub hl (l' := [(0, .ref qm), (1, .int (nI f)), (2, .int (nI b)), (3, .int (nI (9 * (8 * f + b)))), (4, .int (nI 0))]) [2, 3, 4, 1, 0] rfl
  have loop13 : ∀ (d : Nat) (h : Nat) (ls : Array Slot) (H : Heap) (locs : List Loc), k - h = d → (h ≤ k) → lv_has ls 8 [(0, .ref qm), (1, .int (nI f)), (2, .int (nI b)), (3, .int (nI (9 * (8 * f + b)))), (4, .int (nI (h)))] → va_P D cls (mW cI cZ qm mp mt ml mc mf me mg mh mu (cd) (nI k) (nI n) (nI (pn)) (nI (nx)) (ep) (nI (M.1)) (M.2.2.1) (M.2.2.2) (wi) (jb) (fp) (tf) (tt) (fi) (ln) (bI y) (1000) (pr) (1000) (tk) (8) (le) (576) (co) (576) (fr) (10) (em) (192) (M.2.1) (10) (nb) (10) (zs_f h su)) H → va_D A (mW cI cZ qm mp mt ml mc mf me mg mh mu (cd) (nI k) (nI n) (nI (pn)) (nI (nx)) (ep) (nI (M.1)) (M.2.2.1) (M.2.2.2) (wi) (jb) (fp) (tf) (tt) (fi) (ln) (bI y) (1000) (pr) (1000) (tk) (8) (le) (576) (co) (576) (fr) (10) (em) (192) (M.2.1) (10) (nb) (10) (zs_f h su)) → va_S A s.heap H locs → W p l e ({ frames := 2, cells := 0, slots := 0, locals := 48 }) s m ([.ref qm, .int (nI f), .int (nI b)] : List Value).toArray below meth c H locs 0 0 (MQ below (sd_qv D (mW cI cZ qm mp mt ml mc mf me mg mh mu (cd) (nI k) (nI n) (nI (pn)) (nI (nx + (mb_o tk nx k nb (mv_f cb xb y k) k (0, zs_f k su, M)).1)) (ep) (nI ((mb_e (mb_o tk nx k nb (mv_f cb xb y k) k (0, zs_f k su, M)).2.1 nb (bI y) k (mb_o tk nx k nb (mv_f cb xb y k) k (0, zs_f k su, M)).2.2).1)) ((mb_e (mb_o tk nx k nb (mv_f cb xb y k) k (0, zs_f k su, M)).2.1 nb (bI y) k (mb_o tk nx k nb (mv_f cb xb y k) k (0, zs_f k su, M)).2.2).2.2.1) ((mb_e (mb_o tk nx k nb (mv_f cb xb y k) k (0, zs_f k su, M)).2.1 nb (bI y) k (mb_o tk nx k nb (mv_f cb xb y k) k (0, zs_f k su, M)).2.2).2.2.2) (wi) (jb) (fp) (tf) (tt) (fi) (ln) (bI y) (1000) (pr) (1000) (tk) (8) (le) (576) (co) (576) (fr) (10) (em) (192) ((mb_e (mb_o tk nx k nb (mv_f cb xb y k) k (0, zs_f k su, M)).2.1 nb (bI y) k (mb_o tk nx k nb (mv_f cb xb y k) k (0, zs_f k su, M)).2.2).2.1) (10) (nb) (10) ((mb_o tk nx k nb (mv_f cb xb y k) k (0, zs_f k su, M)).2.1)) A) ([.ref qm, .int (nI f), .int (nI b)] : List Value).toArray s 0 0 A) (F0 m 13 ls []) := by
    intro d
    induction d using Nat.strongRecOn with
    | _ d ih13 =>
    intro h ls H locs hd hh9 hl hP hD hS
    subst hd
    refine lv_iload hx hb d_M_build_13 (lv_at hl 4 rfl) ?_
    refine lv_aload_n hx hb d_M_build_15 rfl (lv_at hl 0 rfl) ?_
    refine va_get (D := D) (ci := 5) (v := .int (nI k)) (C := R_M) (T := F_M) (N := 26) hx hb hts wl_M hown hK hP 0 rfl rfl 1 (by decide) (hts _ wf_M_48) (fun _ h9 => h9) rfl d_M_build_16 ?_
    refine lv_icmp_ge (tgt := 36) hx hb d_M_build_19 rfl (fun hc19 => ?_) (fun hc19 => ?_)
    · skip
      rw [nI_leI (by omega) (by omega)] at hc19
      have hhk : k = h := by omega
      subst hhk
      refine lv_iconst (v := 0) hx hb d_M_build_36 (by decide) ?_
      refine sd_top (y := nI 0) (rfl) ?_
      refine lv_istore hx hb d_M_build_37 hl (Nat.le_of_ble_eq_true rfl) (lv' := [(4, .int (nI 0)), (0, .ref qm), (1, .int (nI f)), (2, .int (nI b)), (3, .int (nI (9 * (8 * f + b))))]) rfl (fun ls hl => ?_)
      have hl := lv_sub hl (l' := [(0, .ref qm), (1, .int (nI f)), (2, .int (nI b)), (3, .int (nI (9 * (8 * f + b)))), (4, .int (nI 0))]) [1, 2, 3, 4, 0] rfl
      have loop39 : ∀ (d : Nat) (g : Nat) (ls : Array Slot) (H : Heap) (locs : List Loc), k - g = d → (g ≤ k) → lv_has ls 8 [(0, .ref qm), (1, .int (nI f)), (2, .int (nI b)), (3, .int (nI (9 * (8 * f + b)))), (4, .int (nI (g)))] → va_P D cls (mW cI cZ qm mp mt ml mc mf me mg mh mu (cd) (nI k) (nI n) (nI (pn)) (nI (nx + (mb_o tk nx k nb (mv_f cb xb y k) g (0, zs_f k su, M)).1)) (ep) (nI ((mb_o tk nx k nb (mv_f cb xb y k) g (0, zs_f k su, M)).2.2.1)) ((mb_o tk nx k nb (mv_f cb xb y k) g (0, zs_f k su, M)).2.2.2.2.1) ((mb_o tk nx k nb (mv_f cb xb y k) g (0, zs_f k su, M)).2.2.2.2.2) (wi) (jb) (fp) (tf) (tt) (fi) (ln) (bI y) (1000) (pr) (1000) (tk) (8) (le) (576) (co) (576) (fr) (10) (em) (192) ((mb_o tk nx k nb (mv_f cb xb y k) g (0, zs_f k su, M)).2.2.2.1) (10) (nb) (10) ((mb_o tk nx k nb (mv_f cb xb y k) g (0, zs_f k su, M)).2.1)) H → va_D A (mW cI cZ qm mp mt ml mc mf me mg mh mu (cd) (nI k) (nI n) (nI (pn)) (nI (nx + (mb_o tk nx k nb (mv_f cb xb y k) g (0, zs_f k su, M)).1)) (ep) (nI ((mb_o tk nx k nb (mv_f cb xb y k) g (0, zs_f k su, M)).2.2.1)) ((mb_o tk nx k nb (mv_f cb xb y k) g (0, zs_f k su, M)).2.2.2.2.1) ((mb_o tk nx k nb (mv_f cb xb y k) g (0, zs_f k su, M)).2.2.2.2.2) (wi) (jb) (fp) (tf) (tt) (fi) (ln) (bI y) (1000) (pr) (1000) (tk) (8) (le) (576) (co) (576) (fr) (10) (em) (192) ((mb_o tk nx k nb (mv_f cb xb y k) g (0, zs_f k su, M)).2.2.2.1) (10) (nb) (10) ((mb_o tk nx k nb (mv_f cb xb y k) g (0, zs_f k su, M)).2.1)) → va_S A s.heap H locs → W p l e ({ frames := 2, cells := 0, slots := 0, locals := 48 }) s m ([.ref qm, .int (nI f), .int (nI b)] : List Value).toArray below meth c H locs 0 0 (MQ below (sd_qv D (mW cI cZ qm mp mt ml mc mf me mg mh mu (cd) (nI k) (nI n) (nI (pn)) (nI (nx + (mb_o tk nx k nb (mv_f cb xb y k) k (0, zs_f k su, M)).1)) (ep) (nI ((mb_e (mb_o tk nx k nb (mv_f cb xb y k) k (0, zs_f k su, M)).2.1 nb (bI y) k (mb_o tk nx k nb (mv_f cb xb y k) k (0, zs_f k su, M)).2.2).1)) ((mb_e (mb_o tk nx k nb (mv_f cb xb y k) k (0, zs_f k su, M)).2.1 nb (bI y) k (mb_o tk nx k nb (mv_f cb xb y k) k (0, zs_f k su, M)).2.2).2.2.1) ((mb_e (mb_o tk nx k nb (mv_f cb xb y k) k (0, zs_f k su, M)).2.1 nb (bI y) k (mb_o tk nx k nb (mv_f cb xb y k) k (0, zs_f k su, M)).2.2).2.2.2) (wi) (jb) (fp) (tf) (tt) (fi) (ln) (bI y) (1000) (pr) (1000) (tk) (8) (le) (576) (co) (576) (fr) (10) (em) (192) ((mb_e (mb_o tk nx k nb (mv_f cb xb y k) k (0, zs_f k su, M)).2.1 nb (bI y) k (mb_o tk nx k nb (mv_f cb xb y k) k (0, zs_f k su, M)).2.2).2.1) (10) (nb) (10) ((mb_o tk nx k nb (mv_f cb xb y k) k (0, zs_f k su, M)).2.1)) A) ([.ref qm, .int (nI f), .int (nI b)] : List Value).toArray s 0 0 A) (F0 m 39 ls []) := by
        intro d
        induction d using Nat.strongRecOn with
        | _ d ih39 =>
        intro g ls H locs hd hg hl hP hD hS
        subst hd
        refine lv_iload hx hb d_M_build_39 (lv_at hl 4 rfl) ?_
        refine lv_aload_n hx hb d_M_build_41 rfl (lv_at hl 0 rfl) ?_
        refine va_get (D := D) (ci := 5) (v := .int (nI k)) (C := R_M) (T := F_M) (N := 26) hx hb hts wl_M hown hK hP 0 rfl rfl 1 (by decide) (hts _ wf_M_48) (fun _ h9 => h9) rfl d_M_build_42 ?_
        refine lv_icmp_ge (tgt := 223) hx hb d_M_build_45 rfl (fun hc45 => ?_) (fun hc45 => ?_)
        · skip
          rw [nI_leI (by omega) (by omega)] at hc45
          have hgk : k = g := by omega
          subst hgk
          refine lv_iconst (v := 0) hx hb d_M_build_223 (by decide) ?_
          refine sd_top (y := nI 0) (rfl) ?_
          refine lv_istore hx hb d_M_build_224 hl (Nat.le_of_ble_eq_true rfl) (lv' := [(4, .int (nI 0)), (0, .ref qm), (1, .int (nI f)), (2, .int (nI b)), (3, .int (nI (9 * (8 * f + b))))]) rfl (fun ls hl => ?_)
          have hl := lv_sub hl (l' := [(0, .ref qm), (1, .int (nI f)), (2, .int (nI b)), (3, .int (nI (9 * (8 * f + b)))), (4, .int (nI 0))]) [1, 2, 3, 4, 0] rfl
          have loop226 : ∀ (d : Nat) (h : Nat) (ls : Array Slot) (H : Heap) (locs : List Loc), k - h = d → (h ≤ k) → lv_has ls 8 [(0, .ref qm), (1, .int (nI f)), (2, .int (nI b)), (3, .int (nI (9 * (8 * f + b)))), (4, .int (nI (h)))] → va_P D cls (mW cI cZ qm mp mt ml mc mf me mg mh mu (cd) (nI k) (nI n) (nI (pn)) (nI (nx + (mb_o tk nx k nb (mv_f cb xb y k) k (0, zs_f k su, M)).1)) (ep) (nI ((mb_e (mb_o tk nx k nb (mv_f cb xb y k) k (0, zs_f k su, M)).2.1 nb (bI y) h (mb_o tk nx k nb (mv_f cb xb y k) k (0, zs_f k su, M)).2.2).1)) ((mb_e (mb_o tk nx k nb (mv_f cb xb y k) k (0, zs_f k su, M)).2.1 nb (bI y) h (mb_o tk nx k nb (mv_f cb xb y k) k (0, zs_f k su, M)).2.2).2.2.1) ((mb_e (mb_o tk nx k nb (mv_f cb xb y k) k (0, zs_f k su, M)).2.1 nb (bI y) h (mb_o tk nx k nb (mv_f cb xb y k) k (0, zs_f k su, M)).2.2).2.2.2) (wi) (jb) (fp) (tf) (tt) (fi) (ln) (bI y) (1000) (pr) (1000) (tk) (8) (le) (576) (co) (576) (fr) (10) (em) (192) ((mb_e (mb_o tk nx k nb (mv_f cb xb y k) k (0, zs_f k su, M)).2.1 nb (bI y) h (mb_o tk nx k nb (mv_f cb xb y k) k (0, zs_f k su, M)).2.2).2.1) (10) (nb) (10) ((mb_o tk nx k nb (mv_f cb xb y k) k (0, zs_f k su, M)).2.1)) H → va_D A (mW cI cZ qm mp mt ml mc mf me mg mh mu (cd) (nI k) (nI n) (nI (pn)) (nI (nx + (mb_o tk nx k nb (mv_f cb xb y k) k (0, zs_f k su, M)).1)) (ep) (nI ((mb_e (mb_o tk nx k nb (mv_f cb xb y k) k (0, zs_f k su, M)).2.1 nb (bI y) h (mb_o tk nx k nb (mv_f cb xb y k) k (0, zs_f k su, M)).2.2).1)) ((mb_e (mb_o tk nx k nb (mv_f cb xb y k) k (0, zs_f k su, M)).2.1 nb (bI y) h (mb_o tk nx k nb (mv_f cb xb y k) k (0, zs_f k su, M)).2.2).2.2.1) ((mb_e (mb_o tk nx k nb (mv_f cb xb y k) k (0, zs_f k su, M)).2.1 nb (bI y) h (mb_o tk nx k nb (mv_f cb xb y k) k (0, zs_f k su, M)).2.2).2.2.2) (wi) (jb) (fp) (tf) (tt) (fi) (ln) (bI y) (1000) (pr) (1000) (tk) (8) (le) (576) (co) (576) (fr) (10) (em) (192) ((mb_e (mb_o tk nx k nb (mv_f cb xb y k) k (0, zs_f k su, M)).2.1 nb (bI y) h (mb_o tk nx k nb (mv_f cb xb y k) k (0, zs_f k su, M)).2.2).2.1) (10) (nb) (10) ((mb_o tk nx k nb (mv_f cb xb y k) k (0, zs_f k su, M)).2.1)) → va_S A s.heap H locs → W p l e ({ frames := 2, cells := 0, slots := 0, locals := 48 }) s m ([.ref qm, .int (nI f), .int (nI b)] : List Value).toArray below meth c H locs 0 0 (MQ below (sd_qv D (mW cI cZ qm mp mt ml mc mf me mg mh mu (cd) (nI k) (nI n) (nI (pn)) (nI (nx + (mb_o tk nx k nb (mv_f cb xb y k) k (0, zs_f k su, M)).1)) (ep) (nI ((mb_e (mb_o tk nx k nb (mv_f cb xb y k) k (0, zs_f k su, M)).2.1 nb (bI y) k (mb_o tk nx k nb (mv_f cb xb y k) k (0, zs_f k su, M)).2.2).1)) ((mb_e (mb_o tk nx k nb (mv_f cb xb y k) k (0, zs_f k su, M)).2.1 nb (bI y) k (mb_o tk nx k nb (mv_f cb xb y k) k (0, zs_f k su, M)).2.2).2.2.1) ((mb_e (mb_o tk nx k nb (mv_f cb xb y k) k (0, zs_f k su, M)).2.1 nb (bI y) k (mb_o tk nx k nb (mv_f cb xb y k) k (0, zs_f k su, M)).2.2).2.2.2) (wi) (jb) (fp) (tf) (tt) (fi) (ln) (bI y) (1000) (pr) (1000) (tk) (8) (le) (576) (co) (576) (fr) (10) (em) (192) ((mb_e (mb_o tk nx k nb (mv_f cb xb y k) k (0, zs_f k su, M)).2.1 nb (bI y) k (mb_o tk nx k nb (mv_f cb xb y k) k (0, zs_f k su, M)).2.2).2.1) (10) (nb) (10) ((mb_o tk nx k nb (mv_f cb xb y k) k (0, zs_f k su, M)).2.1)) A) ([.ref qm, .int (nI f), .int (nI b)] : List Value).toArray s 0 0 A) (F0 m 226 ls []) := by
            intro d
            induction d using Nat.strongRecOn with
            | _ d ih226 =>
            intro h ls H locs hd hh9 hl hP hD hS
            subst hd
            refine lv_iload hx hb d_M_build_226 (lv_at hl 4 rfl) ?_
            refine lv_aload_n hx hb d_M_build_228 rfl (lv_at hl 0 rfl) ?_
            refine va_get (D := D) (ci := 5) (v := .int (nI k)) (C := R_M) (T := F_M) (N := 26) hx hb hts wl_M hown hK hP 0 rfl rfl 1 (by decide) (hts _ wf_M_48) (fun _ h9 => h9) rfl d_M_build_229 ?_
            refine lv_icmp_ge (tgt := 263) hx hb d_M_build_232 rfl (fun hc232 => ?_) (fun hc232 => ?_)
            · skip
              rw [nI_leI (by omega) (by omega)] at hc232
              have hhk : k = h := by omega
              subst hhk
              exact sd_vret hx hb hr hlk hP hS (Nat.le_of_ble_eq_true rfl) (Nat.le_of_ble_eq_true rfl) d_M_build_263
            · skip
              rw [nI_leI (by omega) (by omega)] at hc232
              have hO2 : (mb_o tk nx k nb (mv_f cb xb y k) k (0, zs_f k su, M)).2.2.1 ≤ M.1 + k * k := mb_o2 tk nx k nb (mv_f cb xb y k) k (0, zs_f k su, M)
              have hE := mb_e2 (mb_o tk nx k nb (mv_f cb xb y k) k (0, zs_f k su, M)).2.1 nb (bI y) h (mb_o tk nx k nb (mv_f cb xb y k) k (0, zs_f k su, M)).2.2
              have hTe : (mb_e (mb_o tk nx k nb (mv_f cb xb y k) k (0, zs_f k su, M)).2.1 nb (bI y) h (mb_o tk nx k nb (mv_f cb xb y k) k (0, zs_f k su, M)).2.2).1 < 2 ^ 31 := by omega
              refine lv_aload_n hx hb d_M_build_235 rfl (lv_at hl 0 rfl) ?_
              refine lv_aload_n hx hb d_M_build_236 rfl (lv_at hl 0 rfl) ?_
              refine va_get (D := D) (ci := 5) (v := .ref mh) (C := R_M) (T := F_M) (N := 26) hx hb hts wl_M hown hK hP 0 rfl rfl 24 (by decide) (hts _ wf_M_39) (fun _ h9 => h9) rfl d_M_build_237 ?_
              refine lv_iload hx hb d_M_build_240 (lv_at hl 4 rfl) ?_
              refine sd_iald (j := h) hx hb hK hP 8 0 rfl rfl (by omega) (by omega) d_M_build_242 ?_
              refine lv_aload_n hx hb d_M_build_243 rfl (lv_at hl 0 rfl) ?_
              refine va_get (D := D) (ci := 5) (v := .int (bI y)) (C := R_M) (T := F_M) (N := 26) hx hb hts wl_M hown hK hP 0 rfl rfl 23 (by decide) (hts _ wf_M_85) (fun _ h9 => h9) rfl d_M_build_244 ?_
              refine lv_aload_n hx hb d_M_build_247 rfl (lv_at hl 0 rfl) ?_
              refine va_get (D := D) (ci := 5) (v := .ref mu) (C := R_M) (T := F_M) (N := 26) hx hb hts wl_M hown hK hP 0 rfl rfl 25 (by decide) (hts _ wf_M_42) (fun _ h9 => h9) rfl d_M_build_248 ?_
              refine lv_iload hx hb d_M_build_251 (lv_at hl 4 rfl) ?_
              refine sd_iald (j := h) hx hb hK hP 9 0 rfl rfl (by omega) (by omega) d_M_build_253 ?_
              refine sd_allVV (As := [.int (nb (h)), .int (bI y), .int ((mb_o tk nx k nb (mv_f cb xb y k) k (0, zs_f k su, M)).2.1 (h))]) (rest := []) (w1 := (mW cI cZ qm mp mt ml mc mf me mg mh mu (cd) (nI k) (nI n) (nI (pn)) (nI ((nx + (mb_o tk nx k nb (mv_f cb xb y k) k (0, zs_f k su, M)).1))) (ep) (nI ((mm_s (mb_e (mb_o tk nx k nb (mv_f cb xb y k) k (0, zs_f k su, M)).2.1 nb (bI y) h (mb_o tk nx k nb (mv_f cb xb y k) k (0, zs_f k su, M)).2.2) (nb (h)) (bI y) ((mb_o tk nx k nb (mv_f cb xb y k) k (0, zs_f k su, M)).2.1 (h))).1)) ((mm_s (mb_e (mb_o tk nx k nb (mv_f cb xb y k) k (0, zs_f k su, M)).2.1 nb (bI y) h (mb_o tk nx k nb (mv_f cb xb y k) k (0, zs_f k su, M)).2.2) (nb (h)) (bI y) ((mb_o tk nx k nb (mv_f cb xb y k) k (0, zs_f k su, M)).2.1 (h))).2.2.1) ((mm_s (mb_e (mb_o tk nx k nb (mv_f cb xb y k) k (0, zs_f k su, M)).2.1 nb (bI y) h (mb_o tk nx k nb (mv_f cb xb y k) k (0, zs_f k su, M)).2.2) (nb (h)) (bI y) ((mb_o tk nx k nb (mv_f cb xb y k) k (0, zs_f k su, M)).2.1 (h))).2.2.2) (wi) (jb) (fp) (tf) (tt) (fi) (ln) (bI y) (1000) (pr) (1000) (tk) (8) (le) (576) (co) (576) (fr) (10) (em) (192) ((mm_s (mb_e (mb_o tk nx k nb (mv_f cb xb y k) k (0, zs_f k su, M)).2.1 nb (bI y) h (mb_o tk nx k nb (mv_f cb xb y k) k (0, zs_f k su, M)).2.2) (nb (h)) (bI y) ((mb_o tk nx k nb (mv_f cb xb y k) k (0, zs_f k su, M)).2.1 (h))).2.1) (10) (nb) (10) ((mb_o tk nx k nb (mv_f cb xb y k) k (0, zs_f k su, M)).2.1))) (c_M_send l D cI cZ cQ (qm) (mp) (mt) (ml) (mc) (mf) (me) (mg) (mh) (mu) (k) (n) (pn) (nx + (mb_o tk nx k nb (mv_f cb xb y k) k (0, zs_f k su, M)).1) (cd) (ep) ((mb_e (mb_o tk nx k nb (mv_f cb xb y k) k (0, zs_f k su, M)).2.1 nb (bI y) h (mb_o tk nx k nb (mv_f cb xb y k) k (0, zs_f k su, M)).2.2)) (wi) (jb) (fp) (tf) (tt) (fi) (ln) (bI y) (pr) (tk) (le) (co) (fr) (em) (nb) ((mb_o tk nx k nb (mv_f cb xb y k) k (0, zs_f k su, M)).2.1) (nb (h)) (bI y) ((mb_o tk nx k nb (mv_f cb xb y k) k (0, zs_f k su, M)).2.1 (h)) (hk) (hn) (hTe)) ⟨wc_M_send, wm_M_81, wi_M, by decide, by decide, show (parseMethodDescriptor y_M_send.desc).map (fun d => d.parameters.length) = some 3 by decide +kernel⟩ wo_M_send wz_M_send hx hb hml hown hts hl.1 ⟨Nat.le_of_ble_eq_true rfl, Nat.le_of_ble_eq_true rfl⟩ ⟨Nat.le_of_ble_eq_true rfl, Nat.le_of_ble_eq_true rfl⟩ hK hP hD hS hA (rfl) (q0 := 0) rfl rfl rfl (Nat.le_of_ble_eq_true rfl) d_M_build_254 (fun H locs hP hD hS => ?_)
              have hP : va_P D cls (mW cI cZ qm mp mt ml mc mf me mg mh mu (cd) (nI k) (nI n) (nI (pn)) (nI ((nx + (mb_o tk nx k nb (mv_f cb xb y k) k (0, zs_f k su, M)).1))) (ep) (nI ((mm_s (mb_e (mb_o tk nx k nb (mv_f cb xb y k) k (0, zs_f k su, M)).2.1 nb (bI y) h (mb_o tk nx k nb (mv_f cb xb y k) k (0, zs_f k su, M)).2.2) (nb (h)) (bI y) ((mb_o tk nx k nb (mv_f cb xb y k) k (0, zs_f k su, M)).2.1 (h))).1)) ((mm_s (mb_e (mb_o tk nx k nb (mv_f cb xb y k) k (0, zs_f k su, M)).2.1 nb (bI y) h (mb_o tk nx k nb (mv_f cb xb y k) k (0, zs_f k su, M)).2.2) (nb (h)) (bI y) ((mb_o tk nx k nb (mv_f cb xb y k) k (0, zs_f k su, M)).2.1 (h))).2.2.1) ((mm_s (mb_e (mb_o tk nx k nb (mv_f cb xb y k) k (0, zs_f k su, M)).2.1 nb (bI y) h (mb_o tk nx k nb (mv_f cb xb y k) k (0, zs_f k su, M)).2.2) (nb (h)) (bI y) ((mb_o tk nx k nb (mv_f cb xb y k) k (0, zs_f k su, M)).2.1 (h))).2.2.2) (wi) (jb) (fp) (tf) (tt) (fi) (ln) (bI y) (1000) (pr) (1000) (tk) (8) (le) (576) (co) (576) (fr) (10) (em) (192) ((mm_s (mb_e (mb_o tk nx k nb (mv_f cb xb y k) k (0, zs_f k su, M)).2.1 nb (bI y) h (mb_o tk nx k nb (mv_f cb xb y k) k (0, zs_f k su, M)).2.2) (nb (h)) (bI y) ((mb_o tk nx k nb (mv_f cb xb y k) k (0, zs_f k su, M)).2.1 (h))).2.1) (10) (nb) (10) ((mb_o tk nx k nb (mv_f cb xb y k) k (0, zs_f k su, M)).2.1)) H := hP
              have hD : va_D A (mW cI cZ qm mp mt ml mc mf me mg mh mu (cd) (nI k) (nI n) (nI (pn)) (nI ((nx + (mb_o tk nx k nb (mv_f cb xb y k) k (0, zs_f k su, M)).1))) (ep) (nI ((mm_s (mb_e (mb_o tk nx k nb (mv_f cb xb y k) k (0, zs_f k su, M)).2.1 nb (bI y) h (mb_o tk nx k nb (mv_f cb xb y k) k (0, zs_f k su, M)).2.2) (nb (h)) (bI y) ((mb_o tk nx k nb (mv_f cb xb y k) k (0, zs_f k su, M)).2.1 (h))).1)) ((mm_s (mb_e (mb_o tk nx k nb (mv_f cb xb y k) k (0, zs_f k su, M)).2.1 nb (bI y) h (mb_o tk nx k nb (mv_f cb xb y k) k (0, zs_f k su, M)).2.2) (nb (h)) (bI y) ((mb_o tk nx k nb (mv_f cb xb y k) k (0, zs_f k su, M)).2.1 (h))).2.2.1) ((mm_s (mb_e (mb_o tk nx k nb (mv_f cb xb y k) k (0, zs_f k su, M)).2.1 nb (bI y) h (mb_o tk nx k nb (mv_f cb xb y k) k (0, zs_f k su, M)).2.2) (nb (h)) (bI y) ((mb_o tk nx k nb (mv_f cb xb y k) k (0, zs_f k su, M)).2.1 (h))).2.2.2) (wi) (jb) (fp) (tf) (tt) (fi) (ln) (bI y) (1000) (pr) (1000) (tk) (8) (le) (576) (co) (576) (fr) (10) (em) (192) ((mm_s (mb_e (mb_o tk nx k nb (mv_f cb xb y k) k (0, zs_f k su, M)).2.1 nb (bI y) h (mb_o tk nx k nb (mv_f cb xb y k) k (0, zs_f k su, M)).2.2) (nb (h)) (bI y) ((mb_o tk nx k nb (mv_f cb xb y k) k (0, zs_f k su, M)).2.1 (h))).2.1) (10) (nb) (10) ((mb_o tk nx k nb (mv_f cb xb y k) k (0, zs_f k su, M)).2.1)) := hD
              refine lv_iinc hx hb d_M_build_257 hl (k := 4) rfl (v := nI (h + 1)) (ii_1 _) (Nat.le_of_ble_eq_true rfl) (lv' := [(4, .int (nI (h + 1))), (0, .ref qm), (1, .int (nI f)), (2, .int (nI b)), (3, .int (nI (9 * (8 * f + b))))]) rfl (fun ls hl => ?_)
              refine lv_goto (tgt := 226) hx hb d_M_build_260 rfl ?_
              have hl := lv_sub hl (l' := [(0, .ref qm), (1, .int (nI f)), (2, .int (nI b)), (3, .int (nI (9 * (8 * f + b)))), (4, .int (nI (h + 1)))]) [1, 2, 3, 4, 0] rfl
              exact ih226 _ (by omega) (h + 1) ls _ _ rfl (by omega) hl hP hD hS
          exact loop226 _ (0) ls _ _ rfl (Nat.zero_le _) hl hP hD hS
        · skip
          rw [nI_leI (by omega) (by omega)] at hc45
          have hgk : g < k := by omega
          have hO1 : (mb_o tk nx k nb (mv_f cb xb y k) g (0, zs_f k su, M)).1 = g * (k - 1) := mb_o1 tk nx k nb (mv_f cb xb y k) g (zs_f k su) M
          have hO2 : (mb_o tk nx k nb (mv_f cb xb y k) g (0, zs_f k su, M)).2.2.1 ≤ M.1 + g * k := mb_o2 tk nx k nb (mv_f cb xb y k) g (0, zs_f k su, M)
          have hm1 : (g + 1) * (k - 1) ≤ k * (k - 1) := Nat.mul_le_mul_right _ hgk
          have hm2 : (g + 1) * k ≤ k * k := Nat.mul_le_mul_right _ hgk
          rw [Nat.add_mul, Nat.one_mul] at hm1 hm2
          refine lv_aload_n hx hb d_M_build_48 rfl (lv_at hl 0 rfl) ?_
          refine lv_aload_n hx hb d_M_build_49 rfl (lv_at hl 0 rfl) ?_
          refine va_get (D := D) (ci := 5) (v := .ref mc) (C := R_M) (T := F_M) (N := 26) hx hb hts wl_M hown hK hP 0 rfl rfl 8 (by decide) (hts _ wf_M_19) (fun _ h9 => h9) rfl d_M_build_50 ?_
          refine lv_iload_n hx hb d_M_build_53 rfl (lv_at hl 3 rfl) ?_
          refine lv_aload_n hx hb d_M_build_54 rfl (lv_at hl 0 rfl) ?_
          refine va_get (D := D) (ci := 5) (v := .ref mh) (C := R_M) (T := F_M) (N := 26) hx hb hts wl_M hown hK hP 0 rfl rfl 24 (by decide) (hts _ wf_M_39) (fun _ h9 => h9) rfl d_M_build_55 ?_
          refine lv_iload hx hb d_M_build_58 (lv_at hl 4 rfl) ?_
          refine sd_iald (j := g) hx hb hK hP 8 0 rfl rfl (by omega) (by omega) d_M_build_60 ?_
          refine sd_top (y := bI (xb g)) (hxb g (by omega)) ?_
          refine sd_allVI (As := [.ref mc, .int (nI (9 * (8 * f + b))), .int (bI (xb g))]) (rest := []) (w1 := (mW cI cZ qm mp mt ml mc mf me mg mh mu (cd) (nI k) (nI n) (nI (pn)) (nI ((nx + (mb_o tk nx k nb (mv_f cb xb y k) g (0, zs_f k su, M)).1))) (ep) (nI (((mb_o tk nx k nb (mv_f cb xb y k) g (0, zs_f k su, M)).2.2).1)) (((mb_o tk nx k nb (mv_f cb xb y k) g (0, zs_f k su, M)).2.2).2.2.1) (((mb_o tk nx k nb (mv_f cb xb y k) g (0, zs_f k su, M)).2.2).2.2.2) (wi) (jb) (fp) (tf) (tt) (fi) (ln) (bI y) (1000) (pr) (1000) (tk) (8) (le) (576) (co) (576) (fr) (10) (em) (192) (((mb_o tk nx k nb (mv_f cb xb y k) g (0, zs_f k su, M)).2.2).2.1) (10) (nb) (10) ((mb_o tk nx k nb (mv_f cb xb y k) g (0, zs_f k su, M)).2.1))) (c_M_valueAt_c l D cI cZ cQ (qm) (mp) (mt) (ml) (mc) (mf) (me) (mg) (mh) (mu) (k) (n) (pn) (nx + (mb_o tk nx k nb (mv_f cb xb y k) g (0, zs_f k su, M)).1) (cd) (ep) ((mb_o tk nx k nb (mv_f cb xb y k) g (0, zs_f k su, M)).2.2) (wi) (jb) (fp) (tf) (tt) (fi) (ln) (bI y) (pr) (tk) (le) (co) (fr) (em) (nb) ((mb_o tk nx k nb (mv_f cb xb y k) g (0, zs_f k su, M)).2.1) (9 * (8 * f + b)) (cb) (xb g) (hk) (hn) (by omega) (hco)) ⟨wc_M_valueAt, wm_M_77, wi_M, by decide, by decide, show (parseMethodDescriptor y_M_valueAt.desc).map (fun d => d.parameters.length) = some 3 by decide +kernel⟩ wo_M_valueAt wz_M_valueAt hx hb hml hown hts hl.1 ⟨Nat.le_of_ble_eq_true rfl, Nat.le_of_ble_eq_true rfl⟩ ⟨Nat.le_of_ble_eq_true rfl, Nat.le_of_ble_eq_true rfl⟩ hK hP hD hS hA (rfl) (q0 := 0) rfl rfl rfl (Nat.le_of_ble_eq_true rfl) d_M_build_61 (fun H locs hP hD hS => ?_)
          have hP : va_P D cls (mW cI cZ qm mp mt ml mc mf me mg mh mu (cd) (nI k) (nI n) (nI (pn)) (nI ((nx + (mb_o tk nx k nb (mv_f cb xb y k) g (0, zs_f k su, M)).1))) (ep) (nI (((mb_o tk nx k nb (mv_f cb xb y k) g (0, zs_f k su, M)).2.2).1)) (((mb_o tk nx k nb (mv_f cb xb y k) g (0, zs_f k su, M)).2.2).2.2.1) (((mb_o tk nx k nb (mv_f cb xb y k) g (0, zs_f k su, M)).2.2).2.2.2) (wi) (jb) (fp) (tf) (tt) (fi) (ln) (bI y) (1000) (pr) (1000) (tk) (8) (le) (576) (co) (576) (fr) (10) (em) (192) (((mb_o tk nx k nb (mv_f cb xb y k) g (0, zs_f k su, M)).2.2).2.1) (10) (nb) (10) ((mb_o tk nx k nb (mv_f cb xb y k) g (0, zs_f k su, M)).2.1)) H := hP
          have hD : va_D A (mW cI cZ qm mp mt ml mc mf me mg mh mu (cd) (nI k) (nI n) (nI (pn)) (nI ((nx + (mb_o tk nx k nb (mv_f cb xb y k) g (0, zs_f k su, M)).1))) (ep) (nI (((mb_o tk nx k nb (mv_f cb xb y k) g (0, zs_f k su, M)).2.2).1)) (((mb_o tk nx k nb (mv_f cb xb y k) g (0, zs_f k su, M)).2.2).2.2.1) (((mb_o tk nx k nb (mv_f cb xb y k) g (0, zs_f k su, M)).2.2).2.2.2) (wi) (jb) (fp) (tf) (tt) (fi) (ln) (bI y) (1000) (pr) (1000) (tk) (8) (le) (576) (co) (576) (fr) (10) (em) (192) (((mb_o tk nx k nb (mv_f cb xb y k) g (0, zs_f k su, M)).2.2).2.1) (10) (nb) (10) ((mb_o tk nx k nb (mv_f cb xb y k) g (0, zs_f k su, M)).2.1)) := hD
          refine lv_istore hx hb d_M_build_64 hl (Nat.le_of_ble_eq_true rfl) (lv' := [(5, .int (bI (gf_h cb (xb g) k 0#8))), (0, .ref qm), (1, .int (nI f)), (2, .int (nI b)), (3, .int (nI (9 * (8 * f + b)))), (4, .int (nI (g)))]) rfl (fun ls hl => ?_)
          refine lv_iconst (v := 0) hx hb d_M_build_66 (by decide) ?_
          refine sd_top (y := nI 0) (rfl) ?_
          refine lv_istore hx hb d_M_build_67 hl (Nat.le_of_ble_eq_true rfl) (lv' := [(6, .int (nI 0)), (5, .int (bI (gf_h cb (xb g) k 0#8))), (0, .ref qm), (1, .int (nI f)), (2, .int (nI b)), (3, .int (nI (9 * (8 * f + b)))), (4, .int (nI (g)))]) rfl (fun ls hl => ?_)
          have hl := lv_sub hl (l' := [(0, .ref qm), (1, .int (nI f)), (2, .int (nI b)), (3, .int (nI (9 * (8 * f + b)))), (4, .int (nI (g))), (5, .int (bI (gf_h cb (xb g) k 0#8))), (6, .int (nI 0))]) [2, 3, 4, 5, 6, 1, 0] rfl
          have loop69 : ∀ (d : Nat) (h : Nat) (ls : Array Slot) (H : Heap) (locs : List Loc), k - h = d → (h ≤ k) → lv_has ls 8 [(0, .ref qm), (1, .int (nI f)), (2, .int (nI b)), (3, .int (nI (9 * (8 * f + b)))), (4, .int (nI (g))), (5, .int (bI (gf_R xb y g (gf_h cb (xb g) k 0#8) h))), (6, .int (nI (h)))] → va_P D cls (mW cI cZ qm mp mt ml mc mf me mg mh mu (cd) (nI k) (nI n) (nI (pn)) (nI ((nx + (mb_o tk nx k nb (mv_f cb xb y k) g (0, zs_f k su, M)).1))) (ep) (nI (((mb_o tk nx k nb (mv_f cb xb y k) g (0, zs_f k su, M)).2.2).1)) (((mb_o tk nx k nb (mv_f cb xb y k) g (0, zs_f k su, M)).2.2).2.2.1) (((mb_o tk nx k nb (mv_f cb xb y k) g (0, zs_f k su, M)).2.2).2.2.2) (wi) (jb) (fp) (tf) (tt) (fi) (ln) (bI y) (1000) (pr) (1000) (tk) (8) (le) (576) (co) (576) (fr) (10) (em) (192) (((mb_o tk nx k nb (mv_f cb xb y k) g (0, zs_f k su, M)).2.2).2.1) (10) (nb) (10) ((mb_o tk nx k nb (mv_f cb xb y k) g (0, zs_f k su, M)).2.1)) H → va_D A (mW cI cZ qm mp mt ml mc mf me mg mh mu (cd) (nI k) (nI n) (nI (pn)) (nI ((nx + (mb_o tk nx k nb (mv_f cb xb y k) g (0, zs_f k su, M)).1))) (ep) (nI (((mb_o tk nx k nb (mv_f cb xb y k) g (0, zs_f k su, M)).2.2).1)) (((mb_o tk nx k nb (mv_f cb xb y k) g (0, zs_f k su, M)).2.2).2.2.1) (((mb_o tk nx k nb (mv_f cb xb y k) g (0, zs_f k su, M)).2.2).2.2.2) (wi) (jb) (fp) (tf) (tt) (fi) (ln) (bI y) (1000) (pr) (1000) (tk) (8) (le) (576) (co) (576) (fr) (10) (em) (192) (((mb_o tk nx k nb (mv_f cb xb y k) g (0, zs_f k su, M)).2.2).2.1) (10) (nb) (10) ((mb_o tk nx k nb (mv_f cb xb y k) g (0, zs_f k su, M)).2.1)) → va_S A s.heap H locs → W p l e ({ frames := 2, cells := 0, slots := 0, locals := 48 }) s m ([.ref qm, .int (nI f), .int (nI b)] : List Value).toArray below meth c H locs 0 0 (MQ below (sd_qv D (mW cI cZ qm mp mt ml mc mf me mg mh mu (cd) (nI k) (nI n) (nI (pn)) (nI (nx + (mb_o tk nx k nb (mv_f cb xb y k) k (0, zs_f k su, M)).1)) (ep) (nI ((mb_e (mb_o tk nx k nb (mv_f cb xb y k) k (0, zs_f k su, M)).2.1 nb (bI y) k (mb_o tk nx k nb (mv_f cb xb y k) k (0, zs_f k su, M)).2.2).1)) ((mb_e (mb_o tk nx k nb (mv_f cb xb y k) k (0, zs_f k su, M)).2.1 nb (bI y) k (mb_o tk nx k nb (mv_f cb xb y k) k (0, zs_f k su, M)).2.2).2.2.1) ((mb_e (mb_o tk nx k nb (mv_f cb xb y k) k (0, zs_f k su, M)).2.1 nb (bI y) k (mb_o tk nx k nb (mv_f cb xb y k) k (0, zs_f k su, M)).2.2).2.2.2) (wi) (jb) (fp) (tf) (tt) (fi) (ln) (bI y) (1000) (pr) (1000) (tk) (8) (le) (576) (co) (576) (fr) (10) (em) (192) ((mb_e (mb_o tk nx k nb (mv_f cb xb y k) k (0, zs_f k su, M)).2.1 nb (bI y) k (mb_o tk nx k nb (mv_f cb xb y k) k (0, zs_f k su, M)).2.2).2.1) (10) (nb) (10) ((mb_o tk nx k nb (mv_f cb xb y k) k (0, zs_f k su, M)).2.1)) A) ([.ref qm, .int (nI f), .int (nI b)] : List Value).toArray s 0 0 A) (F0 m 69 ls []) := by
            intro d
            induction d using Nat.strongRecOn with
            | _ d ih69 =>
            intro h ls H locs hd hh9 hl hP hD hS
            subst hd
            refine lv_iload hx hb d_M_build_69 (lv_at hl 6 rfl) ?_
            refine lv_aload_n hx hb d_M_build_71 rfl (lv_at hl 0 rfl) ?_
            refine va_get (D := D) (ci := 5) (v := .int (nI k)) (C := R_M) (T := F_M) (N := 26) hx hb hts wl_M hown hK hP 0 rfl rfl 1 (by decide) (hts _ wf_M_48) (fun _ h9 => h9) rfl d_M_build_72 ?_
            refine lv_icmp_ge (tgt := 133) hx hb d_M_build_75 rfl (fun hc75 => ?_) (fun hc75 => ?_)
            · skip
              rw [nI_leI (by omega) (by omega)] at hc75
              have hhk : k = h := by omega
              subst hhk
              refine lv_iconst (v := 0) hx hb d_M_build_133 (by decide) ?_
              refine sd_top (y := nI 0) (rfl) ?_
              refine lv_istore hx hb d_M_build_134 hl (Nat.le_of_ble_eq_true rfl) (lv' := [(6, .int (nI 0)), (0, .ref qm), (1, .int (nI f)), (2, .int (nI b)), (3, .int (nI (9 * (8 * f + b)))), (4, .int (nI (g))), (5, .int (bI (gf_R xb y g (gf_h cb (xb g) k 0#8) k)))]) rfl (fun ls hl => ?_)
              have hl := lv_sub hl (l' := [(0, .ref qm), (1, .int (nI f)), (2, .int (nI b)), (3, .int (nI (9 * (8 * f + b)))), (4, .int (nI (g))), (5, .int (bI (gf_R xb y g (gf_h cb (xb g) k 0#8) k))), (6, .int (nI 0))]) [1, 2, 3, 4, 5, 6, 0] rfl
              have loop136 : ∀ (d : Nat) (h : Nat) (ls : Array Slot) (H : Heap) (locs : List Loc), k - h = d → (h ≤ k) → lv_has ls 8 [(0, .ref qm), (1, .int (nI f)), (2, .int (nI b)), (3, .int (nI (9 * (8 * f + b)))), (4, .int (nI (g))), (5, .int ((mb_i tk nx k nb g h ((mb_o tk nx k nb (mv_f cb xb y k) g (0, zs_f k su, M)).1, mv_f cb xb y k g, (mb_o tk nx k nb (mv_f cb xb y k) g (0, zs_f k su, M)).2.1, (mb_o tk nx k nb (mv_f cb xb y k) g (0, zs_f k su, M)).2.2)).2.1)), (6, .int (nI (h)))] → va_P D cls (mW cI cZ qm mp mt ml mc mf me mg mh mu (cd) (nI k) (nI n) (nI (pn)) (nI (nx + (mb_i tk nx k nb g h ((mb_o tk nx k nb (mv_f cb xb y k) g (0, zs_f k su, M)).1, mv_f cb xb y k g, (mb_o tk nx k nb (mv_f cb xb y k) g (0, zs_f k su, M)).2.1, (mb_o tk nx k nb (mv_f cb xb y k) g (0, zs_f k su, M)).2.2)).1)) (ep) (nI ((mb_i tk nx k nb g h ((mb_o tk nx k nb (mv_f cb xb y k) g (0, zs_f k su, M)).1, mv_f cb xb y k g, (mb_o tk nx k nb (mv_f cb xb y k) g (0, zs_f k su, M)).2.1, (mb_o tk nx k nb (mv_f cb xb y k) g (0, zs_f k su, M)).2.2)).2.2.2.1)) ((mb_i tk nx k nb g h ((mb_o tk nx k nb (mv_f cb xb y k) g (0, zs_f k su, M)).1, mv_f cb xb y k g, (mb_o tk nx k nb (mv_f cb xb y k) g (0, zs_f k su, M)).2.1, (mb_o tk nx k nb (mv_f cb xb y k) g (0, zs_f k su, M)).2.2)).2.2.2.2.2.1) ((mb_i tk nx k nb g h ((mb_o tk nx k nb (mv_f cb xb y k) g (0, zs_f k su, M)).1, mv_f cb xb y k g, (mb_o tk nx k nb (mv_f cb xb y k) g (0, zs_f k su, M)).2.1, (mb_o tk nx k nb (mv_f cb xb y k) g (0, zs_f k su, M)).2.2)).2.2.2.2.2.2) (wi) (jb) (fp) (tf) (tt) (fi) (ln) (bI y) (1000) (pr) (1000) (tk) (8) (le) (576) (co) (576) (fr) (10) (em) (192) ((mb_i tk nx k nb g h ((mb_o tk nx k nb (mv_f cb xb y k) g (0, zs_f k su, M)).1, mv_f cb xb y k g, (mb_o tk nx k nb (mv_f cb xb y k) g (0, zs_f k su, M)).2.1, (mb_o tk nx k nb (mv_f cb xb y k) g (0, zs_f k su, M)).2.2)).2.2.2.2.1) (10) (nb) (10) ((mb_i tk nx k nb g h ((mb_o tk nx k nb (mv_f cb xb y k) g (0, zs_f k su, M)).1, mv_f cb xb y k g, (mb_o tk nx k nb (mv_f cb xb y k) g (0, zs_f k su, M)).2.1, (mb_o tk nx k nb (mv_f cb xb y k) g (0, zs_f k su, M)).2.2)).2.2.1)) H → va_D A (mW cI cZ qm mp mt ml mc mf me mg mh mu (cd) (nI k) (nI n) (nI (pn)) (nI (nx + (mb_i tk nx k nb g h ((mb_o tk nx k nb (mv_f cb xb y k) g (0, zs_f k su, M)).1, mv_f cb xb y k g, (mb_o tk nx k nb (mv_f cb xb y k) g (0, zs_f k su, M)).2.1, (mb_o tk nx k nb (mv_f cb xb y k) g (0, zs_f k su, M)).2.2)).1)) (ep) (nI ((mb_i tk nx k nb g h ((mb_o tk nx k nb (mv_f cb xb y k) g (0, zs_f k su, M)).1, mv_f cb xb y k g, (mb_o tk nx k nb (mv_f cb xb y k) g (0, zs_f k su, M)).2.1, (mb_o tk nx k nb (mv_f cb xb y k) g (0, zs_f k su, M)).2.2)).2.2.2.1)) ((mb_i tk nx k nb g h ((mb_o tk nx k nb (mv_f cb xb y k) g (0, zs_f k su, M)).1, mv_f cb xb y k g, (mb_o tk nx k nb (mv_f cb xb y k) g (0, zs_f k su, M)).2.1, (mb_o tk nx k nb (mv_f cb xb y k) g (0, zs_f k su, M)).2.2)).2.2.2.2.2.1) ((mb_i tk nx k nb g h ((mb_o tk nx k nb (mv_f cb xb y k) g (0, zs_f k su, M)).1, mv_f cb xb y k g, (mb_o tk nx k nb (mv_f cb xb y k) g (0, zs_f k su, M)).2.1, (mb_o tk nx k nb (mv_f cb xb y k) g (0, zs_f k su, M)).2.2)).2.2.2.2.2.2) (wi) (jb) (fp) (tf) (tt) (fi) (ln) (bI y) (1000) (pr) (1000) (tk) (8) (le) (576) (co) (576) (fr) (10) (em) (192) ((mb_i tk nx k nb g h ((mb_o tk nx k nb (mv_f cb xb y k) g (0, zs_f k su, M)).1, mv_f cb xb y k g, (mb_o tk nx k nb (mv_f cb xb y k) g (0, zs_f k su, M)).2.1, (mb_o tk nx k nb (mv_f cb xb y k) g (0, zs_f k su, M)).2.2)).2.2.2.2.1) (10) (nb) (10) ((mb_i tk nx k nb g h ((mb_o tk nx k nb (mv_f cb xb y k) g (0, zs_f k su, M)).1, mv_f cb xb y k g, (mb_o tk nx k nb (mv_f cb xb y k) g (0, zs_f k su, M)).2.1, (mb_o tk nx k nb (mv_f cb xb y k) g (0, zs_f k su, M)).2.2)).2.2.1)) → va_S A s.heap H locs → W p l e ({ frames := 2, cells := 0, slots := 0, locals := 48 }) s m ([.ref qm, .int (nI f), .int (nI b)] : List Value).toArray below meth c H locs 0 0 (MQ below (sd_qv D (mW cI cZ qm mp mt ml mc mf me mg mh mu (cd) (nI k) (nI n) (nI (pn)) (nI (nx + (mb_o tk nx k nb (mv_f cb xb y k) k (0, zs_f k su, M)).1)) (ep) (nI ((mb_e (mb_o tk nx k nb (mv_f cb xb y k) k (0, zs_f k su, M)).2.1 nb (bI y) k (mb_o tk nx k nb (mv_f cb xb y k) k (0, zs_f k su, M)).2.2).1)) ((mb_e (mb_o tk nx k nb (mv_f cb xb y k) k (0, zs_f k su, M)).2.1 nb (bI y) k (mb_o tk nx k nb (mv_f cb xb y k) k (0, zs_f k su, M)).2.2).2.2.1) ((mb_e (mb_o tk nx k nb (mv_f cb xb y k) k (0, zs_f k su, M)).2.1 nb (bI y) k (mb_o tk nx k nb (mv_f cb xb y k) k (0, zs_f k su, M)).2.2).2.2.2) (wi) (jb) (fp) (tf) (tt) (fi) (ln) (bI y) (1000) (pr) (1000) (tk) (8) (le) (576) (co) (576) (fr) (10) (em) (192) ((mb_e (mb_o tk nx k nb (mv_f cb xb y k) k (0, zs_f k su, M)).2.1 nb (bI y) k (mb_o tk nx k nb (mv_f cb xb y k) k (0, zs_f k su, M)).2.2).2.1) (10) (nb) (10) ((mb_o tk nx k nb (mv_f cb xb y k) k (0, zs_f k su, M)).2.1)) A) ([.ref qm, .int (nI f), .int (nI b)] : List Value).toArray s 0 0 A) (F0 m 136 ls []) := by
                intro d
                induction d using Nat.strongRecOn with
                | _ d ih136 =>
                intro h ls H locs hd hh9 hl hP hD hS
                subst hd
                refine lv_iload hx hb d_M_build_136 (lv_at hl 6 rfl) ?_
                refine lv_aload_n hx hb d_M_build_138 rfl (lv_at hl 0 rfl) ?_
                refine va_get (D := D) (ci := 5) (v := .int (nI k)) (C := R_M) (T := F_M) (N := 26) hx hb hts wl_M hown hK hP 0 rfl rfl 1 (by decide) (hts _ wf_M_48) (fun _ h9 => h9) rfl d_M_build_139 ?_
                refine lv_icmp_ge (tgt := 217) hx hb d_M_build_142 rfl (fun hc142 => ?_) (fun hc142 => ?_)
                · skip
                  rw [nI_leI (by omega) (by omega)] at hc142
                  have hhk : k = h := by omega
                  subst hhk
                  refine lv_iinc hx hb d_M_build_217 hl (k := 4) rfl (v := nI (g + 1)) (ii_1 _) (Nat.le_of_ble_eq_true rfl) (lv' := [(4, .int (nI (g + 1))), (0, .ref qm), (1, .int (nI f)), (2, .int (nI b)), (3, .int (nI (9 * (8 * f + b)))), (5, .int ((mb_i tk nx k nb g k ((mb_o tk nx k nb (mv_f cb xb y k) g (0, zs_f k su, M)).1, mv_f cb xb y k g, (mb_o tk nx k nb (mv_f cb xb y k) g (0, zs_f k su, M)).2.1, (mb_o tk nx k nb (mv_f cb xb y k) g (0, zs_f k su, M)).2.2)).2.1)), (6, .int (nI (k)))]) rfl (fun ls hl => ?_)
                  refine lv_goto (tgt := 39) hx hb d_M_build_220 rfl ?_
                  have hl := lv_sub hl (l' := [(0, .ref qm), (1, .int (nI f)), (2, .int (nI b)), (3, .int (nI (9 * (8 * f + b)))), (4, .int (nI (g + 1)))]) [1, 2, 3, 4, 0] rfl
                  exact ih39 _ (by omega) (g + 1) ls _ _ rfl (by omega) hl hP hD hS
                · skip
                  rw [nI_leI (by omega) (by omega)] at hc142
                  have hN1 := mb_i1 tk nx k nb g h ((mb_o tk nx k nb (mv_f cb xb y k) g (0, zs_f k su, M)).1, mv_f cb xb y k g, (mb_o tk nx k nb (mv_f cb xb y k) g (0, zs_f k su, M)).2.1, (mb_o tk nx k nb (mv_f cb xb y k) g (0, zs_f k su, M)).2.2) (by omega)
                  have hN2 := mb_i2 tk nx k nb g h ((mb_o tk nx k nb (mv_f cb xb y k) g (0, zs_f k su, M)).1, mv_f cb xb y k g, (mb_o tk nx k nb (mv_f cb xb y k) g (0, zs_f k su, M)).2.1, (mb_o tk nx k nb (mv_f cb xb y k) g (0, zs_f k su, M)).2.2)
                  dsimp only at hN1 hN2
                  have hTi : (mb_i tk nx k nb g h ((mb_o tk nx k nb (mv_f cb xb y k) g (0, zs_f k su, M)).1, mv_f cb xb y k g, (mb_o tk nx k nb (mv_f cb xb y k) g (0, zs_f k su, M)).2.1, (mb_o tk nx k nb (mv_f cb xb y k) g (0, zs_f k su, M)).2.2)).2.2.2.1 < 2 ^ 31 := by omega
                  have join165 : ∀ (t2 : Nat) (pc9 : Int32) (ls : Array Slot) (H : Heap) (locs : List Loc), (t2 = if h = k - 1 then (mb_i tk nx k nb g h ((mb_o tk nx k nb (mv_f cb xb y k) g (0, zs_f k su, M)).1, mv_f cb xb y k g, (mb_o tk nx k nb (mv_f cb xb y k) g (0, zs_f k su, M)).2.1, (mb_o tk nx k nb (mv_f cb xb y k) g (0, zs_f k su, M)).2.2)).1 else (mb_i tk nx k nb g h ((mb_o tk nx k nb (mv_f cb xb y k) g (0, zs_f k su, M)).1, mv_f cb xb y k g, (mb_o tk nx k nb (mv_f cb xb y k) g (0, zs_f k su, M)).2.1, (mb_o tk nx k nb (mv_f cb xb y k) g (0, zs_f k su, M)).2.2)).1 + 1) → (pc9 = if h = k - 1 then (mb_i tk nx k nb g h ((mb_o tk nx k nb (mv_f cb xb y k) g (0, zs_f k su, M)).1, mv_f cb xb y k g, (mb_o tk nx k nb (mv_f cb xb y k) g (0, zs_f k su, M)).2.1, (mb_o tk nx k nb (mv_f cb xb y k) g (0, zs_f k su, M)).2.2)).2.1 else tk (nx + (mb_i tk nx k nb g h ((mb_o tk nx k nb (mv_f cb xb y k) g (0, zs_f k su, M)).1, mv_f cb xb y k g, (mb_o tk nx k nb (mv_f cb xb y k) g (0, zs_f k su, M)).2.1, (mb_o tk nx k nb (mv_f cb xb y k) g (0, zs_f k su, M)).2.2)).1)) → lv_has ls 8 [(0, .ref qm), (1, .int (nI f)), (2, .int (nI b)), (3, .int (nI (9 * (8 * f + b)))), (4, .int (nI (g))), (5, .int ((mb_i tk nx k nb g h ((mb_o tk nx k nb (mv_f cb xb y k) g (0, zs_f k su, M)).1, mv_f cb xb y k g, (mb_o tk nx k nb (mv_f cb xb y k) g (0, zs_f k su, M)).2.1, (mb_o tk nx k nb (mv_f cb xb y k) g (0, zs_f k su, M)).2.2)).2.1)), (6, .int (nI (h)))] → va_P D cls (mW cI cZ qm mp mt ml mc mf me mg mh mu (cd) (nI k) (nI n) (nI (pn)) (nI (nx + t2)) (ep) (nI ((mb_i tk nx k nb g h ((mb_o tk nx k nb (mv_f cb xb y k) g (0, zs_f k su, M)).1, mv_f cb xb y k g, (mb_o tk nx k nb (mv_f cb xb y k) g (0, zs_f k su, M)).2.1, (mb_o tk nx k nb (mv_f cb xb y k) g (0, zs_f k su, M)).2.2)).2.2.2.1)) ((mb_i tk nx k nb g h ((mb_o tk nx k nb (mv_f cb xb y k) g (0, zs_f k su, M)).1, mv_f cb xb y k g, (mb_o tk nx k nb (mv_f cb xb y k) g (0, zs_f k su, M)).2.1, (mb_o tk nx k nb (mv_f cb xb y k) g (0, zs_f k su, M)).2.2)).2.2.2.2.2.1) ((mb_i tk nx k nb g h ((mb_o tk nx k nb (mv_f cb xb y k) g (0, zs_f k su, M)).1, mv_f cb xb y k g, (mb_o tk nx k nb (mv_f cb xb y k) g (0, zs_f k su, M)).2.1, (mb_o tk nx k nb (mv_f cb xb y k) g (0, zs_f k su, M)).2.2)).2.2.2.2.2.2) (wi) (jb) (fp) (tf) (tt) (fi) (ln) (bI y) (1000) (pr) (1000) (tk) (8) (le) (576) (co) (576) (fr) (10) (em) (192) ((mb_i tk nx k nb g h ((mb_o tk nx k nb (mv_f cb xb y k) g (0, zs_f k su, M)).1, mv_f cb xb y k g, (mb_o tk nx k nb (mv_f cb xb y k) g (0, zs_f k su, M)).2.1, (mb_o tk nx k nb (mv_f cb xb y k) g (0, zs_f k su, M)).2.2)).2.2.2.2.1) (10) (nb) (10) ((mb_i tk nx k nb g h ((mb_o tk nx k nb (mv_f cb xb y k) g (0, zs_f k su, M)).1, mv_f cb xb y k g, (mb_o tk nx k nb (mv_f cb xb y k) g (0, zs_f k su, M)).2.1, (mb_o tk nx k nb (mv_f cb xb y k) g (0, zs_f k su, M)).2.2)).2.2.1)) H → va_D A (mW cI cZ qm mp mt ml mc mf me mg mh mu (cd) (nI k) (nI n) (nI (pn)) (nI (nx + t2)) (ep) (nI ((mb_i tk nx k nb g h ((mb_o tk nx k nb (mv_f cb xb y k) g (0, zs_f k su, M)).1, mv_f cb xb y k g, (mb_o tk nx k nb (mv_f cb xb y k) g (0, zs_f k su, M)).2.1, (mb_o tk nx k nb (mv_f cb xb y k) g (0, zs_f k su, M)).2.2)).2.2.2.1)) ((mb_i tk nx k nb g h ((mb_o tk nx k nb (mv_f cb xb y k) g (0, zs_f k su, M)).1, mv_f cb xb y k g, (mb_o tk nx k nb (mv_f cb xb y k) g (0, zs_f k su, M)).2.1, (mb_o tk nx k nb (mv_f cb xb y k) g (0, zs_f k su, M)).2.2)).2.2.2.2.2.1) ((mb_i tk nx k nb g h ((mb_o tk nx k nb (mv_f cb xb y k) g (0, zs_f k su, M)).1, mv_f cb xb y k g, (mb_o tk nx k nb (mv_f cb xb y k) g (0, zs_f k su, M)).2.1, (mb_o tk nx k nb (mv_f cb xb y k) g (0, zs_f k su, M)).2.2)).2.2.2.2.2.2) (wi) (jb) (fp) (tf) (tt) (fi) (ln) (bI y) (1000) (pr) (1000) (tk) (8) (le) (576) (co) (576) (fr) (10) (em) (192) ((mb_i tk nx k nb g h ((mb_o tk nx k nb (mv_f cb xb y k) g (0, zs_f k su, M)).1, mv_f cb xb y k g, (mb_o tk nx k nb (mv_f cb xb y k) g (0, zs_f k su, M)).2.1, (mb_o tk nx k nb (mv_f cb xb y k) g (0, zs_f k su, M)).2.2)).2.2.2.2.1) (10) (nb) (10) ((mb_i tk nx k nb g h ((mb_o tk nx k nb (mv_f cb xb y k) g (0, zs_f k su, M)).1, mv_f cb xb y k g, (mb_o tk nx k nb (mv_f cb xb y k) g (0, zs_f k su, M)).2.1, (mb_o tk nx k nb (mv_f cb xb y k) g (0, zs_f k su, M)).2.2)).2.2.1)) → va_S A s.heap H locs → W p l e ({ frames := 2, cells := 0, slots := 0, locals := 48 }) s m ([.ref qm, .int (nI f), .int (nI b)] : List Value).toArray below meth c H locs 0 0 (MQ below (sd_qv D (mW cI cZ qm mp mt ml mc mf me mg mh mu (cd) (nI k) (nI n) (nI (pn)) (nI (nx + (mb_o tk nx k nb (mv_f cb xb y k) k (0, zs_f k su, M)).1)) (ep) (nI ((mb_e (mb_o tk nx k nb (mv_f cb xb y k) k (0, zs_f k su, M)).2.1 nb (bI y) k (mb_o tk nx k nb (mv_f cb xb y k) k (0, zs_f k su, M)).2.2).1)) ((mb_e (mb_o tk nx k nb (mv_f cb xb y k) k (0, zs_f k su, M)).2.1 nb (bI y) k (mb_o tk nx k nb (mv_f cb xb y k) k (0, zs_f k su, M)).2.2).2.2.1) ((mb_e (mb_o tk nx k nb (mv_f cb xb y k) k (0, zs_f k su, M)).2.1 nb (bI y) k (mb_o tk nx k nb (mv_f cb xb y k) k (0, zs_f k su, M)).2.2).2.2.2) (wi) (jb) (fp) (tf) (tt) (fi) (ln) (bI y) (1000) (pr) (1000) (tk) (8) (le) (576) (co) (576) (fr) (10) (em) (192) ((mb_e (mb_o tk nx k nb (mv_f cb xb y k) k (0, zs_f k su, M)).2.1 nb (bI y) k (mb_o tk nx k nb (mv_f cb xb y k) k (0, zs_f k su, M)).2.2).2.1) (10) (nb) (10) ((mb_o tk nx k nb (mv_f cb xb y k) k (0, zs_f k su, M)).2.1)) A) ([.ref qm, .int (nI f), .int (nI b)] : List Value).toArray s 0 0 A) (F0 m 165 ls [.int (pc9)]) := by
                    intro t2 pc9 ls H locs ht2 hpc hl hP hD hS
                    refine lv_istore hx hb d_M_build_165 hl (Nat.le_of_ble_eq_true rfl) (lv' := [(7, .int (pc9)), (0, .ref qm), (1, .int (nI f)), (2, .int (nI b)), (3, .int (nI (9 * (8 * f + b)))), (4, .int (nI (g))), (5, .int ((mb_i tk nx k nb g h ((mb_o tk nx k nb (mv_f cb xb y k) g (0, zs_f k su, M)).1, mv_f cb xb y k g, (mb_o tk nx k nb (mv_f cb xb y k) g (0, zs_f k su, M)).2.1, (mb_o tk nx k nb (mv_f cb xb y k) g (0, zs_f k su, M)).2.2)).2.1)), (6, .int (nI (h)))]) rfl (fun ls hl => ?_)
                    refine lv_iload hx hb d_M_build_167 (lv_at hl 6 rfl) ?_
                    refine lv_iload hx hb d_M_build_169 (lv_at hl 0 rfl) ?_
                    refine lv_ixor hx hb d_M_build_171 ?_
                    refine lv_istore hx hb d_M_build_172 hl (Nat.le_of_ble_eq_true rfl) (lv' := [(5, .int (((mb_i tk nx k nb g h ((mb_o tk nx k nb (mv_f cb xb y k) g (0, zs_f k su, M)).1, mv_f cb xb y k g, (mb_o tk nx k nb (mv_f cb xb y k) g (0, zs_f k su, M)).2.1, (mb_o tk nx k nb (mv_f cb xb y k) g (0, zs_f k su, M)).2.2)).2.1) ^^^ (pc9))), (7, .int (pc9)), (0, .ref qm), (1, .int (nI f)), (2, .int (nI b)), (3, .int (nI (9 * (8 * f + b)))), (4, .int (nI (g))), (6, .int (nI (h)))]) rfl (fun ls hl => ?_)
                    refine lv_aload_n hx hb d_M_build_174 rfl (lv_at hl 2 rfl) ?_
                    refine va_get (D := D) (ci := 5) (v := .ref mu) (C := R_M) (T := F_M) (N := 26) hx hb hts wl_M hown hK hP 0 rfl rfl 25 (by decide) (hts _ wf_M_42) (fun _ h9 => h9) rfl d_M_build_175 ?_
                    refine lv_iload hx hb d_M_build_178 (lv_at hl 7 rfl) ?_
                    refine lv_aload_n hx hb d_M_build_180 rfl (lv_at hl 2 rfl) ?_
                    refine va_get (D := D) (ci := 5) (v := .ref mu) (C := R_M) (T := F_M) (N := 26) hx hb hts wl_M hown hK hP 0 rfl rfl 25 (by decide) (hts _ wf_M_42) (fun _ h9 => h9) rfl d_M_build_181 ?_
                    refine lv_iload hx hb d_M_build_184 (lv_at hl 7 rfl) ?_
                    refine sd_iald (j := h) hx hb hK hP 9 0 rfl rfl (by omega) (by omega) d_M_build_186 ?_
                    refine lv_iload hx hb d_M_build_187 (lv_at hl 1 rfl) ?_
                    refine lv_ixor hx hb d_M_build_189 ?_
                    refine sd_iast (j := h) hx hb hK hP hD hS 9 0 rfl rfl (by omega) (by omega) d_M_build_190 (fun H locs hP hD hS => ?_)
                    have hP : va_P D cls (mW cI cZ qm mp mt ml mc mf me mg mh mu (cd) (nI k) (nI n) (nI (pn)) (nI (nx + t2)) (ep) (nI ((mb_i tk nx k nb g h ((mb_o tk nx k nb (mv_f cb xb y k) g (0, zs_f k su, M)).1, mv_f cb xb y k g, (mb_o tk nx k nb (mv_f cb xb y k) g (0, zs_f k su, M)).2.1, (mb_o tk nx k nb (mv_f cb xb y k) g (0, zs_f k su, M)).2.2)).2.2.2.1)) ((mb_i tk nx k nb g h ((mb_o tk nx k nb (mv_f cb xb y k) g (0, zs_f k su, M)).1, mv_f cb xb y k g, (mb_o tk nx k nb (mv_f cb xb y k) g (0, zs_f k su, M)).2.1, (mb_o tk nx k nb (mv_f cb xb y k) g (0, zs_f k su, M)).2.2)).2.2.2.2.2.1) ((mb_i tk nx k nb g h ((mb_o tk nx k nb (mv_f cb xb y k) g (0, zs_f k su, M)).1, mv_f cb xb y k g, (mb_o tk nx k nb (mv_f cb xb y k) g (0, zs_f k su, M)).2.1, (mb_o tk nx k nb (mv_f cb xb y k) g (0, zs_f k su, M)).2.2)).2.2.2.2.2.2) (wi) (jb) (fp) (tf) (tt) (fi) (ln) (bI y) (1000) (pr) (1000) (tk) (8) (le) (576) (co) (576) (fr) (10) (em) (192) ((mb_i tk nx k nb g h ((mb_o tk nx k nb (mv_f cb xb y k) g (0, zs_f k su, M)).1, mv_f cb xb y k g, (mb_o tk nx k nb (mv_f cb xb y k) g (0, zs_f k su, M)).2.1, (mb_o tk nx k nb (mv_f cb xb y k) g (0, zs_f k su, M)).2.2)).2.2.2.2.1) (10) (nb) (10) (upd ((mb_i tk nx k nb g h ((mb_o tk nx k nb (mv_f cb xb y k) g (0, zs_f k su, M)).1, mv_f cb xb y k g, (mb_o tk nx k nb (mv_f cb xb y k) g (0, zs_f k su, M)).2.1, (mb_o tk nx k nb (mv_f cb xb y k) g (0, zs_f k su, M)).2.2)).2.2.1) (h) ((((mb_i tk nx k nb g h ((mb_o tk nx k nb (mv_f cb xb y k) g (0, zs_f k su, M)).1, mv_f cb xb y k g, (mb_o tk nx k nb (mv_f cb xb y k) g (0, zs_f k su, M)).2.1, (mb_o tk nx k nb (mv_f cb xb y k) g (0, zs_f k su, M)).2.2)).2.2.1) (h)) ^^^ (pc9)))) H := hP
                    have hD : va_D A (mW cI cZ qm mp mt ml mc mf me mg mh mu (cd) (nI k) (nI n) (nI (pn)) (nI (nx + t2)) (ep) (nI ((mb_i tk nx k nb g h ((mb_o tk nx k nb (mv_f cb xb y k) g (0, zs_f k su, M)).1, mv_f cb xb y k g, (mb_o tk nx k nb (mv_f cb xb y k) g (0, zs_f k su, M)).2.1, (mb_o tk nx k nb (mv_f cb xb y k) g (0, zs_f k su, M)).2.2)).2.2.2.1)) ((mb_i tk nx k nb g h ((mb_o tk nx k nb (mv_f cb xb y k) g (0, zs_f k su, M)).1, mv_f cb xb y k g, (mb_o tk nx k nb (mv_f cb xb y k) g (0, zs_f k su, M)).2.1, (mb_o tk nx k nb (mv_f cb xb y k) g (0, zs_f k su, M)).2.2)).2.2.2.2.2.1) ((mb_i tk nx k nb g h ((mb_o tk nx k nb (mv_f cb xb y k) g (0, zs_f k su, M)).1, mv_f cb xb y k g, (mb_o tk nx k nb (mv_f cb xb y k) g (0, zs_f k su, M)).2.1, (mb_o tk nx k nb (mv_f cb xb y k) g (0, zs_f k su, M)).2.2)).2.2.2.2.2.2) (wi) (jb) (fp) (tf) (tt) (fi) (ln) (bI y) (1000) (pr) (1000) (tk) (8) (le) (576) (co) (576) (fr) (10) (em) (192) ((mb_i tk nx k nb g h ((mb_o tk nx k nb (mv_f cb xb y k) g (0, zs_f k su, M)).1, mv_f cb xb y k g, (mb_o tk nx k nb (mv_f cb xb y k) g (0, zs_f k su, M)).2.1, (mb_o tk nx k nb (mv_f cb xb y k) g (0, zs_f k su, M)).2.2)).2.2.2.2.1) (10) (nb) (10) (upd ((mb_i tk nx k nb g h ((mb_o tk nx k nb (mv_f cb xb y k) g (0, zs_f k su, M)).1, mv_f cb xb y k g, (mb_o tk nx k nb (mv_f cb xb y k) g (0, zs_f k su, M)).2.1, (mb_o tk nx k nb (mv_f cb xb y k) g (0, zs_f k su, M)).2.2)).2.2.1) (h) ((((mb_i tk nx k nb g h ((mb_o tk nx k nb (mv_f cb xb y k) g (0, zs_f k su, M)).1, mv_f cb xb y k g, (mb_o tk nx k nb (mv_f cb xb y k) g (0, zs_f k su, M)).2.1, (mb_o tk nx k nb (mv_f cb xb y k) g (0, zs_f k su, M)).2.2)).2.2.1) (h)) ^^^ (pc9)))) := hD
                    refine lv_aload_n hx hb d_M_build_191 rfl (lv_at hl 2 rfl) ?_
                    refine lv_aload_n hx hb d_M_build_192 rfl (lv_at hl 2 rfl) ?_
                    refine va_get (D := D) (ci := 5) (v := .ref mh) (C := R_M) (T := F_M) (N := 26) hx hb hts wl_M hown hK hP 0 rfl rfl 24 (by decide) (hts _ wf_M_39) (fun _ h9 => h9) rfl d_M_build_193 ?_
                    refine lv_iload hx hb d_M_build_196 (lv_at hl 6 rfl) ?_
                    refine sd_iald (j := g) hx hb hK hP 8 0 rfl rfl (by omega) (by omega) d_M_build_198 ?_
                    refine lv_aload_n hx hb d_M_build_199 rfl (lv_at hl 2 rfl) ?_
                    refine va_get (D := D) (ci := 5) (v := .ref mh) (C := R_M) (T := F_M) (N := 26) hx hb hts wl_M hown hK hP 0 rfl rfl 24 (by decide) (hts _ wf_M_39) (fun _ h9 => h9) rfl d_M_build_200 ?_
                    refine lv_iload hx hb d_M_build_203 (lv_at hl 7 rfl) ?_
                    refine sd_iald (j := h) hx hb hK hP 8 0 rfl rfl (by omega) (by omega) d_M_build_205 ?_
                    refine lv_iload hx hb d_M_build_206 (lv_at hl 1 rfl) ?_
                    refine sd_allVV (As := [.int (nb (g)), .int (nb (h)), .int (pc9)]) (rest := []) (w1 := (mW cI cZ qm mp mt ml mc mf me mg mh mu (cd) (nI k) (nI n) (nI (pn)) (nI ((nx + t2))) (ep) (nI ((mm_s ((mb_i tk nx k nb g h ((mb_o tk nx k nb (mv_f cb xb y k) g (0, zs_f k su, M)).1, mv_f cb xb y k g, (mb_o tk nx k nb (mv_f cb xb y k) g (0, zs_f k su, M)).2.1, (mb_o tk nx k nb (mv_f cb xb y k) g (0, zs_f k su, M)).2.2)).2.2.2) (nb (g)) (nb (h)) pc9).1)) ((mm_s ((mb_i tk nx k nb g h ((mb_o tk nx k nb (mv_f cb xb y k) g (0, zs_f k su, M)).1, mv_f cb xb y k g, (mb_o tk nx k nb (mv_f cb xb y k) g (0, zs_f k su, M)).2.1, (mb_o tk nx k nb (mv_f cb xb y k) g (0, zs_f k su, M)).2.2)).2.2.2) (nb (g)) (nb (h)) pc9).2.2.1) ((mm_s ((mb_i tk nx k nb g h ((mb_o tk nx k nb (mv_f cb xb y k) g (0, zs_f k su, M)).1, mv_f cb xb y k g, (mb_o tk nx k nb (mv_f cb xb y k) g (0, zs_f k su, M)).2.1, (mb_o tk nx k nb (mv_f cb xb y k) g (0, zs_f k su, M)).2.2)).2.2.2) (nb (g)) (nb (h)) pc9).2.2.2) (wi) (jb) (fp) (tf) (tt) (fi) (ln) (bI y) (1000) (pr) (1000) (tk) (8) (le) (576) (co) (576) (fr) (10) (em) (192) ((mm_s ((mb_i tk nx k nb g h ((mb_o tk nx k nb (mv_f cb xb y k) g (0, zs_f k su, M)).1, mv_f cb xb y k g, (mb_o tk nx k nb (mv_f cb xb y k) g (0, zs_f k su, M)).2.1, (mb_o tk nx k nb (mv_f cb xb y k) g (0, zs_f k su, M)).2.2)).2.2.2) (nb (g)) (nb (h)) pc9).2.1) (10) (nb) (10) (upd ((mb_i tk nx k nb g h ((mb_o tk nx k nb (mv_f cb xb y k) g (0, zs_f k su, M)).1, mv_f cb xb y k g, (mb_o tk nx k nb (mv_f cb xb y k) g (0, zs_f k su, M)).2.1, (mb_o tk nx k nb (mv_f cb xb y k) g (0, zs_f k su, M)).2.2)).2.2.1) (h) ((((mb_i tk nx k nb g h ((mb_o tk nx k nb (mv_f cb xb y k) g (0, zs_f k su, M)).1, mv_f cb xb y k g, (mb_o tk nx k nb (mv_f cb xb y k) g (0, zs_f k su, M)).2.1, (mb_o tk nx k nb (mv_f cb xb y k) g (0, zs_f k su, M)).2.2)).2.2.1) (h)) ^^^ (pc9))))) (c_M_send l D cI cZ cQ (qm) (mp) (mt) (ml) (mc) (mf) (me) (mg) (mh) (mu) (k) (n) (pn) (nx + t2) (cd) (ep) ((mb_i tk nx k nb g h ((mb_o tk nx k nb (mv_f cb xb y k) g (0, zs_f k su, M)).1, mv_f cb xb y k g, (mb_o tk nx k nb (mv_f cb xb y k) g (0, zs_f k su, M)).2.1, (mb_o tk nx k nb (mv_f cb xb y k) g (0, zs_f k su, M)).2.2)).2.2.2) (wi) (jb) (fp) (tf) (tt) (fi) (ln) (bI y) (pr) (tk) (le) (co) (fr) (em) (nb) (upd ((mb_i tk nx k nb g h ((mb_o tk nx k nb (mv_f cb xb y k) g (0, zs_f k su, M)).1, mv_f cb xb y k g, (mb_o tk nx k nb (mv_f cb xb y k) g (0, zs_f k su, M)).2.1, (mb_o tk nx k nb (mv_f cb xb y k) g (0, zs_f k su, M)).2.2)).2.2.1) (h) ((((mb_i tk nx k nb g h ((mb_o tk nx k nb (mv_f cb xb y k) g (0, zs_f k su, M)).1, mv_f cb xb y k g, (mb_o tk nx k nb (mv_f cb xb y k) g (0, zs_f k su, M)).2.1, (mb_o tk nx k nb (mv_f cb xb y k) g (0, zs_f k su, M)).2.2)).2.2.1) (h)) ^^^ (pc9))) (nb (g)) (nb (h)) (pc9) (hk) (hn) (hTi)) ⟨wc_M_send, wm_M_81, wi_M, by decide, by decide, show (parseMethodDescriptor y_M_send.desc).map (fun d => d.parameters.length) = some 3 by decide +kernel⟩ wo_M_send wz_M_send hx hb hml hown hts hl.1 ⟨Nat.le_of_ble_eq_true rfl, Nat.le_of_ble_eq_true rfl⟩ ⟨Nat.le_of_ble_eq_true rfl, Nat.le_of_ble_eq_true rfl⟩ hK hP hD hS hA (rfl) (q0 := 0) rfl rfl rfl (Nat.le_of_ble_eq_true rfl) d_M_build_208 (fun H locs hP hD hS => ?_)
                    have hP : va_P D cls (mW cI cZ qm mp mt ml mc mf me mg mh mu (cd) (nI k) (nI n) (nI (pn)) (nI ((nx + t2))) (ep) (nI ((mm_s ((mb_i tk nx k nb g h ((mb_o tk nx k nb (mv_f cb xb y k) g (0, zs_f k su, M)).1, mv_f cb xb y k g, (mb_o tk nx k nb (mv_f cb xb y k) g (0, zs_f k su, M)).2.1, (mb_o tk nx k nb (mv_f cb xb y k) g (0, zs_f k su, M)).2.2)).2.2.2) (nb (g)) (nb (h)) pc9).1)) ((mm_s ((mb_i tk nx k nb g h ((mb_o tk nx k nb (mv_f cb xb y k) g (0, zs_f k su, M)).1, mv_f cb xb y k g, (mb_o tk nx k nb (mv_f cb xb y k) g (0, zs_f k su, M)).2.1, (mb_o tk nx k nb (mv_f cb xb y k) g (0, zs_f k su, M)).2.2)).2.2.2) (nb (g)) (nb (h)) pc9).2.2.1) ((mm_s ((mb_i tk nx k nb g h ((mb_o tk nx k nb (mv_f cb xb y k) g (0, zs_f k su, M)).1, mv_f cb xb y k g, (mb_o tk nx k nb (mv_f cb xb y k) g (0, zs_f k su, M)).2.1, (mb_o tk nx k nb (mv_f cb xb y k) g (0, zs_f k su, M)).2.2)).2.2.2) (nb (g)) (nb (h)) pc9).2.2.2) (wi) (jb) (fp) (tf) (tt) (fi) (ln) (bI y) (1000) (pr) (1000) (tk) (8) (le) (576) (co) (576) (fr) (10) (em) (192) ((mm_s ((mb_i tk nx k nb g h ((mb_o tk nx k nb (mv_f cb xb y k) g (0, zs_f k su, M)).1, mv_f cb xb y k g, (mb_o tk nx k nb (mv_f cb xb y k) g (0, zs_f k su, M)).2.1, (mb_o tk nx k nb (mv_f cb xb y k) g (0, zs_f k su, M)).2.2)).2.2.2) (nb (g)) (nb (h)) pc9).2.1) (10) (nb) (10) (upd ((mb_i tk nx k nb g h ((mb_o tk nx k nb (mv_f cb xb y k) g (0, zs_f k su, M)).1, mv_f cb xb y k g, (mb_o tk nx k nb (mv_f cb xb y k) g (0, zs_f k su, M)).2.1, (mb_o tk nx k nb (mv_f cb xb y k) g (0, zs_f k su, M)).2.2)).2.2.1) (h) ((((mb_i tk nx k nb g h ((mb_o tk nx k nb (mv_f cb xb y k) g (0, zs_f k su, M)).1, mv_f cb xb y k g, (mb_o tk nx k nb (mv_f cb xb y k) g (0, zs_f k su, M)).2.1, (mb_o tk nx k nb (mv_f cb xb y k) g (0, zs_f k su, M)).2.2)).2.2.1) (h)) ^^^ (pc9)))) H := hP
                    have hD : va_D A (mW cI cZ qm mp mt ml mc mf me mg mh mu (cd) (nI k) (nI n) (nI (pn)) (nI ((nx + t2))) (ep) (nI ((mm_s ((mb_i tk nx k nb g h ((mb_o tk nx k nb (mv_f cb xb y k) g (0, zs_f k su, M)).1, mv_f cb xb y k g, (mb_o tk nx k nb (mv_f cb xb y k) g (0, zs_f k su, M)).2.1, (mb_o tk nx k nb (mv_f cb xb y k) g (0, zs_f k su, M)).2.2)).2.2.2) (nb (g)) (nb (h)) pc9).1)) ((mm_s ((mb_i tk nx k nb g h ((mb_o tk nx k nb (mv_f cb xb y k) g (0, zs_f k su, M)).1, mv_f cb xb y k g, (mb_o tk nx k nb (mv_f cb xb y k) g (0, zs_f k su, M)).2.1, (mb_o tk nx k nb (mv_f cb xb y k) g (0, zs_f k su, M)).2.2)).2.2.2) (nb (g)) (nb (h)) pc9).2.2.1) ((mm_s ((mb_i tk nx k nb g h ((mb_o tk nx k nb (mv_f cb xb y k) g (0, zs_f k su, M)).1, mv_f cb xb y k g, (mb_o tk nx k nb (mv_f cb xb y k) g (0, zs_f k su, M)).2.1, (mb_o tk nx k nb (mv_f cb xb y k) g (0, zs_f k su, M)).2.2)).2.2.2) (nb (g)) (nb (h)) pc9).2.2.2) (wi) (jb) (fp) (tf) (tt) (fi) (ln) (bI y) (1000) (pr) (1000) (tk) (8) (le) (576) (co) (576) (fr) (10) (em) (192) ((mm_s ((mb_i tk nx k nb g h ((mb_o tk nx k nb (mv_f cb xb y k) g (0, zs_f k su, M)).1, mv_f cb xb y k g, (mb_o tk nx k nb (mv_f cb xb y k) g (0, zs_f k su, M)).2.1, (mb_o tk nx k nb (mv_f cb xb y k) g (0, zs_f k su, M)).2.2)).2.2.2) (nb (g)) (nb (h)) pc9).2.1) (10) (nb) (10) (upd ((mb_i tk nx k nb g h ((mb_o tk nx k nb (mv_f cb xb y k) g (0, zs_f k su, M)).1, mv_f cb xb y k g, (mb_o tk nx k nb (mv_f cb xb y k) g (0, zs_f k su, M)).2.1, (mb_o tk nx k nb (mv_f cb xb y k) g (0, zs_f k su, M)).2.2)).2.2.1) (h) ((((mb_i tk nx k nb g h ((mb_o tk nx k nb (mv_f cb xb y k) g (0, zs_f k su, M)).1, mv_f cb xb y k g, (mb_o tk nx k nb (mv_f cb xb y k) g (0, zs_f k su, M)).2.1, (mb_o tk nx k nb (mv_f cb xb y k) g (0, zs_f k su, M)).2.2)).2.2.1) (h)) ^^^ (pc9)))) := hD
                    refine lv_iinc hx hb d_M_build_211 hl (k := 7) rfl (v := nI (h + 1)) (ii_1 _) (Nat.le_of_ble_eq_true rfl) (lv' := [(6, .int (nI (h + 1))), (5, .int (((mb_i tk nx k nb g h ((mb_o tk nx k nb (mv_f cb xb y k) g (0, zs_f k su, M)).1, mv_f cb xb y k g, (mb_o tk nx k nb (mv_f cb xb y k) g (0, zs_f k su, M)).2.1, (mb_o tk nx k nb (mv_f cb xb y k) g (0, zs_f k su, M)).2.2)).2.1) ^^^ (pc9))), (7, .int (pc9)), (0, .ref qm), (1, .int (nI f)), (2, .int (nI b)), (3, .int (nI (9 * (8 * f + b)))), (4, .int (nI (g)))]) rfl (fun ls hl => ?_)
                    refine lv_goto (tgt := 136) hx hb d_M_build_214 rfl ?_
                    have hl := lv_sub hl (l' := [(0, .ref qm), (1, .int (nI f)), (2, .int (nI b)), (3, .int (nI (9 * (8 * f + b)))), (4, .int (nI (g))), (5, .int (((mb_i tk nx k nb g h ((mb_o tk nx k nb (mv_f cb xb y k) g (0, zs_f k su, M)).1, mv_f cb xb y k g, (mb_o tk nx k nb (mv_f cb xb y k) g (0, zs_f k su, M)).2.1, (mb_o tk nx k nb (mv_f cb xb y k) g (0, zs_f k su, M)).2.2)).2.1) ^^^ (pc9))), (6, .int (nI (h + 1)))]) [3, 4, 5, 6, 7, 1, 0] rfl
                    subst ht2
                    subst hpc
                    exact ih136 _ (by omega) (h + 1) ls _ _ rfl (by omega) hl hP hD hS
                  refine lv_iload hx hb d_M_build_145 (lv_at hl 6 rfl) ?_
                  refine lv_aload_n hx hb d_M_build_147 rfl (lv_at hl 0 rfl) ?_
                  refine va_get (D := D) (ci := 5) (v := .int (nI k)) (C := R_M) (T := F_M) (N := 26) hx hb hts wl_M hown hK hP 0 rfl rfl 1 (by decide) (hts _ wf_M_48) (fun _ h9 => h9) rfl d_M_build_148 ?_
                  refine lv_iconst (v := 1) hx hb d_M_build_151 (by decide) ?_
                  refine lv_isub hx hb d_M_build_152 ?_
                  refine sd_top (y := nI (k - 1)) (ni_pred (by omega)) ?_
                  refine lv_icmp_ne (tgt := 161) hx hb d_M_build_153 rfl (fun hc153 => ?_) (fun hc153 => ?_)
                  · skip
                    have hlt : ¬ h = k - 1 := fun h9 => hc153 (by rw [h9])
                    have hmin : min h (k - 1) = h := Nat.min_eq_left (by omega)
                    refine lv_aload_n hx hb d_M_build_161 rfl (lv_at hl 0 rfl) ?_
                    refine sd_allVI (As := []) (rest := []) (w1 := (mW cI cZ qm mp mt ml mc mf me mg mh mu (cd) (nI k) (nI n) (nI (pn)) (nI ((nx + (mb_i tk nx k nb g h ((mb_o tk nx k nb (mv_f cb xb y k) g (0, zs_f k su, M)).1, mv_f cb xb y k g, (mb_o tk nx k nb (mv_f cb xb y k) g (0, zs_f k su, M)).2.1, (mb_o tk nx k nb (mv_f cb xb y k) g (0, zs_f k su, M)).2.2)).1) + 1)) (ep) (nI (((mb_i tk nx k nb g h ((mb_o tk nx k nb (mv_f cb xb y k) g (0, zs_f k su, M)).1, mv_f cb xb y k g, (mb_o tk nx k nb (mv_f cb xb y k) g (0, zs_f k su, M)).2.1, (mb_o tk nx k nb (mv_f cb xb y k) g (0, zs_f k su, M)).2.2)).2.2.2).1)) (((mb_i tk nx k nb g h ((mb_o tk nx k nb (mv_f cb xb y k) g (0, zs_f k su, M)).1, mv_f cb xb y k g, (mb_o tk nx k nb (mv_f cb xb y k) g (0, zs_f k su, M)).2.1, (mb_o tk nx k nb (mv_f cb xb y k) g (0, zs_f k su, M)).2.2)).2.2.2).2.2.1) (((mb_i tk nx k nb g h ((mb_o tk nx k nb (mv_f cb xb y k) g (0, zs_f k su, M)).1, mv_f cb xb y k g, (mb_o tk nx k nb (mv_f cb xb y k) g (0, zs_f k su, M)).2.1, (mb_o tk nx k nb (mv_f cb xb y k) g (0, zs_f k su, M)).2.2)).2.2.2).2.2.2) (wi) (jb) (fp) (tf) (tt) (fi) (ln) (bI y) (1000) (pr) (1000) (tk) (8) (le) (576) (co) (576) (fr) (10) (em) (192) (((mb_i tk nx k nb g h ((mb_o tk nx k nb (mv_f cb xb y k) g (0, zs_f k su, M)).1, mv_f cb xb y k g, (mb_o tk nx k nb (mv_f cb xb y k) g (0, zs_f k su, M)).2.1, (mb_o tk nx k nb (mv_f cb xb y k) g (0, zs_f k su, M)).2.2)).2.2.2).2.1) (10) (nb) (10) ((mb_i tk nx k nb g h ((mb_o tk nx k nb (mv_f cb xb y k) g (0, zs_f k su, M)).1, mv_f cb xb y k g, (mb_o tk nx k nb (mv_f cb xb y k) g (0, zs_f k su, M)).2.1, (mb_o tk nx k nb (mv_f cb xb y k) g (0, zs_f k su, M)).2.2)).2.2.1))) (c_M_nextTaken l D cI cZ cQ (qm) (mp) (mt) (ml) (mc) (mf) (me) (mg) (mh) (mu) (k) (n) (pn) (nx + (mb_i tk nx k nb g h ((mb_o tk nx k nb (mv_f cb xb y k) g (0, zs_f k su, M)).1, mv_f cb xb y k g, (mb_o tk nx k nb (mv_f cb xb y k) g (0, zs_f k su, M)).2.1, (mb_o tk nx k nb (mv_f cb xb y k) g (0, zs_f k su, M)).2.2)).1) (cd) (ep) ((mb_i tk nx k nb g h ((mb_o tk nx k nb (mv_f cb xb y k) g (0, zs_f k su, M)).1, mv_f cb xb y k g, (mb_o tk nx k nb (mv_f cb xb y k) g (0, zs_f k su, M)).2.1, (mb_o tk nx k nb (mv_f cb xb y k) g (0, zs_f k su, M)).2.2)).2.2.2) (wi) (jb) (fp) (tf) (tt) (fi) (ln) (bI y) (pr) (tk) (le) (co) (fr) (em) (nb) ((mb_i tk nx k nb g h ((mb_o tk nx k nb (mv_f cb xb y k) g (0, zs_f k su, M)).1, mv_f cb xb y k g, (mb_o tk nx k nb (mv_f cb xb y k) g (0, zs_f k su, M)).2.1, (mb_o tk nx k nb (mv_f cb xb y k) g (0, zs_f k su, M)).2.2)).2.2.1) (hk) (hn) (by omega)) ⟨wc_M_nextTaken, wm_M_73, wi_M, by decide, by decide, show (parseMethodDescriptor y_M_nextTaken.desc).map (fun d => d.parameters.length) = some 0 by decide +kernel⟩ wo_M_nextTaken wz_M_nextTaken hx hb hml hown hts hl.1 ⟨Nat.le_of_ble_eq_true rfl, Nat.le_of_ble_eq_true rfl⟩ ⟨Nat.le_of_ble_eq_true rfl, Nat.le_of_ble_eq_true rfl⟩ hK hP hD hS hA (rfl) (q0 := 0) rfl rfl rfl (Nat.le_of_ble_eq_true rfl) d_M_build_162 (fun H locs hP hD hS => ?_)
                    have hP : va_P D cls (mW cI cZ qm mp mt ml mc mf me mg mh mu (cd) (nI k) (nI n) (nI (pn)) (nI ((nx + (mb_i tk nx k nb g h ((mb_o tk nx k nb (mv_f cb xb y k) g (0, zs_f k su, M)).1, mv_f cb xb y k g, (mb_o tk nx k nb (mv_f cb xb y k) g (0, zs_f k su, M)).2.1, (mb_o tk nx k nb (mv_f cb xb y k) g (0, zs_f k su, M)).2.2)).1) + 1)) (ep) (nI (((mb_i tk nx k nb g h ((mb_o tk nx k nb (mv_f cb xb y k) g (0, zs_f k su, M)).1, mv_f cb xb y k g, (mb_o tk nx k nb (mv_f cb xb y k) g (0, zs_f k su, M)).2.1, (mb_o tk nx k nb (mv_f cb xb y k) g (0, zs_f k su, M)).2.2)).2.2.2).1)) (((mb_i tk nx k nb g h ((mb_o tk nx k nb (mv_f cb xb y k) g (0, zs_f k su, M)).1, mv_f cb xb y k g, (mb_o tk nx k nb (mv_f cb xb y k) g (0, zs_f k su, M)).2.1, (mb_o tk nx k nb (mv_f cb xb y k) g (0, zs_f k su, M)).2.2)).2.2.2).2.2.1) (((mb_i tk nx k nb g h ((mb_o tk nx k nb (mv_f cb xb y k) g (0, zs_f k su, M)).1, mv_f cb xb y k g, (mb_o tk nx k nb (mv_f cb xb y k) g (0, zs_f k su, M)).2.1, (mb_o tk nx k nb (mv_f cb xb y k) g (0, zs_f k su, M)).2.2)).2.2.2).2.2.2) (wi) (jb) (fp) (tf) (tt) (fi) (ln) (bI y) (1000) (pr) (1000) (tk) (8) (le) (576) (co) (576) (fr) (10) (em) (192) (((mb_i tk nx k nb g h ((mb_o tk nx k nb (mv_f cb xb y k) g (0, zs_f k su, M)).1, mv_f cb xb y k g, (mb_o tk nx k nb (mv_f cb xb y k) g (0, zs_f k su, M)).2.1, (mb_o tk nx k nb (mv_f cb xb y k) g (0, zs_f k su, M)).2.2)).2.2.2).2.1) (10) (nb) (10) ((mb_i tk nx k nb g h ((mb_o tk nx k nb (mv_f cb xb y k) g (0, zs_f k su, M)).1, mv_f cb xb y k g, (mb_o tk nx k nb (mv_f cb xb y k) g (0, zs_f k su, M)).2.1, (mb_o tk nx k nb (mv_f cb xb y k) g (0, zs_f k su, M)).2.2)).2.2.1)) H := hP
                    have hD : va_D A (mW cI cZ qm mp mt ml mc mf me mg mh mu (cd) (nI k) (nI n) (nI (pn)) (nI ((nx + (mb_i tk nx k nb g h ((mb_o tk nx k nb (mv_f cb xb y k) g (0, zs_f k su, M)).1, mv_f cb xb y k g, (mb_o tk nx k nb (mv_f cb xb y k) g (0, zs_f k su, M)).2.1, (mb_o tk nx k nb (mv_f cb xb y k) g (0, zs_f k su, M)).2.2)).1) + 1)) (ep) (nI (((mb_i tk nx k nb g h ((mb_o tk nx k nb (mv_f cb xb y k) g (0, zs_f k su, M)).1, mv_f cb xb y k g, (mb_o tk nx k nb (mv_f cb xb y k) g (0, zs_f k su, M)).2.1, (mb_o tk nx k nb (mv_f cb xb y k) g (0, zs_f k su, M)).2.2)).2.2.2).1)) (((mb_i tk nx k nb g h ((mb_o tk nx k nb (mv_f cb xb y k) g (0, zs_f k su, M)).1, mv_f cb xb y k g, (mb_o tk nx k nb (mv_f cb xb y k) g (0, zs_f k su, M)).2.1, (mb_o tk nx k nb (mv_f cb xb y k) g (0, zs_f k su, M)).2.2)).2.2.2).2.2.1) (((mb_i tk nx k nb g h ((mb_o tk nx k nb (mv_f cb xb y k) g (0, zs_f k su, M)).1, mv_f cb xb y k g, (mb_o tk nx k nb (mv_f cb xb y k) g (0, zs_f k su, M)).2.1, (mb_o tk nx k nb (mv_f cb xb y k) g (0, zs_f k su, M)).2.2)).2.2.2).2.2.2) (wi) (jb) (fp) (tf) (tt) (fi) (ln) (bI y) (1000) (pr) (1000) (tk) (8) (le) (576) (co) (576) (fr) (10) (em) (192) (((mb_i tk nx k nb g h ((mb_o tk nx k nb (mv_f cb xb y k) g (0, zs_f k su, M)).1, mv_f cb xb y k g, (mb_o tk nx k nb (mv_f cb xb y k) g (0, zs_f k su, M)).2.1, (mb_o tk nx k nb (mv_f cb xb y k) g (0, zs_f k su, M)).2.2)).2.2.2).2.1) (10) (nb) (10) ((mb_i tk nx k nb g h ((mb_o tk nx k nb (mv_f cb xb y k) g (0, zs_f k su, M)).1, mv_f cb xb y k g, (mb_o tk nx k nb (mv_f cb xb y k) g (0, zs_f k su, M)).2.1, (mb_o tk nx k nb (mv_f cb xb y k) g (0, zs_f k su, M)).2.2)).2.2.1)) := hD
                    have hl := lv_sub hl (l' := [(0, .ref qm), (1, .int (nI f)), (2, .int (nI b)), (3, .int (nI (9 * (8 * f + b)))), (4, .int (nI (g))), (5, .int ((mb_i tk nx k nb g h ((mb_o tk nx k nb (mv_f cb xb y k) g (0, zs_f k su, M)).1, mv_f cb xb y k g, (mb_o tk nx k nb (mv_f cb xb y k) g (0, zs_f k su, M)).2.1, (mb_o tk nx k nb (mv_f cb xb y k) g (0, zs_f k su, M)).2.2)).2.1)), (6, .int (nI (h)))]) [0, 1, 2, 3, 4, 5, 6] rfl
                    exact join165 _ _ ls _ _ (by first | exact (if_pos hlt).symm | exact (if_neg hlt).symm) (by first | exact (if_pos hlt).symm | exact (if_neg hlt).symm) hl hP hD hS
                  · skip
                    have hlt : h = k - 1 := (nI_eq (by omega) (by omega)).mp hc153
                    refine lv_iload hx hb d_M_build_156 (lv_at hl 5 rfl) ?_
                    refine lv_goto (tgt := 165) hx hb d_M_build_158 rfl ?_
                    have hl := lv_sub hl (l' := [(0, .ref qm), (1, .int (nI f)), (2, .int (nI b)), (3, .int (nI (9 * (8 * f + b)))), (4, .int (nI (g))), (5, .int ((mb_i tk nx k nb g h ((mb_o tk nx k nb (mv_f cb xb y k) g (0, zs_f k su, M)).1, mv_f cb xb y k g, (mb_o tk nx k nb (mv_f cb xb y k) g (0, zs_f k su, M)).2.1, (mb_o tk nx k nb (mv_f cb xb y k) g (0, zs_f k su, M)).2.2)).2.1)), (6, .int (nI (h)))]) [0, 1, 2, 3, 4, 5, 6] rfl
                    exact join165 _ _ ls _ _ (by first | exact (if_pos hlt).symm | exact (if_neg hlt).symm) (by first | exact (if_pos hlt).symm | exact (if_neg hlt).symm) hl hP hD hS
              exact loop136 _ (0) ls _ _ rfl (Nat.zero_le _) hl hP hD hS
            · skip
              rw [nI_leI (by omega) (by omega)] at hc75
              refine lv_iload hx hb d_M_build_78 (lv_at hl 6 rfl) ?_
              refine lv_iload hx hb d_M_build_80 (lv_at hl 4 rfl) ?_
              refine lv_icmp_ne (tgt := 90) hx hb d_M_build_82 rfl (fun hc82 => ?_) (fun hc82 => ?_)
              · skip
                have hgh : ¬ h = g := fun h9 => hc82 (by rw [h9])
                have hne9 : xb g ^^^ xb h ≠ 0#8 := fun h9 => hgh (hxd h g (by omega) (by omega) (gf_xc h9).symm)
                refine lv_iload hx hb d_M_build_90 (lv_at hl 5 rfl) ?_
                refine lv_aload_n hx hb d_M_build_92 rfl (lv_at hl 0 rfl) ?_
                refine va_get (D := D) (ci := 5) (v := .int (bI y)) (C := R_M) (T := F_M) (N := 26) hx hb hts wl_M hown hK hP 0 rfl rfl 23 (by decide) (hts _ wf_M_85) (fun _ h9 => h9) rfl d_M_build_93 ?_
                refine lv_aload_n hx hb d_M_build_96 rfl (lv_at hl 0 rfl) ?_
                refine va_get (D := D) (ci := 5) (v := .ref mh) (C := R_M) (T := F_M) (N := 26) hx hb hts wl_M hown hK hP 0 rfl rfl 24 (by decide) (hts _ wf_M_39) (fun _ h9 => h9) rfl d_M_build_97 ?_
                refine lv_iload hx hb d_M_build_100 (lv_at hl 6 rfl) ?_
                refine sd_iald (j := h) hx hb hK hP 8 0 rfl rfl (by omega) (by omega) d_M_build_102 ?_
                refine sd_top (y := bI (xb h)) (hxb h (by omega)) ?_
                refine lv_ixor hx hb d_M_build_103 ?_
                refine sd_top (y := bI (y ^^^ xb h)) (bI_xor _ _) ?_
                refine lv_aload_n hx hb d_M_build_104 rfl (lv_at hl 0 rfl) ?_
                refine va_get (D := D) (ci := 5) (v := .ref mh) (C := R_M) (T := F_M) (N := 26) hx hb hts wl_M hown hK hP 0 rfl rfl 24 (by decide) (hts _ wf_M_39) (fun _ h9 => h9) rfl d_M_build_105 ?_
                refine lv_iload hx hb d_M_build_108 (lv_at hl 4 rfl) ?_
                refine sd_iald (j := g) hx hb hK hP 8 0 rfl rfl (by omega) (by omega) d_M_build_110 ?_
                refine sd_top (y := bI (xb g)) (hxb g (by omega)) ?_
                refine lv_aload_n hx hb d_M_build_111 rfl (lv_at hl 0 rfl) ?_
                refine va_get (D := D) (ci := 5) (v := .ref mh) (C := R_M) (T := F_M) (N := 26) hx hb hts wl_M hown hK hP 0 rfl rfl 24 (by decide) (hts _ wf_M_39) (fun _ h9 => h9) rfl d_M_build_112 ?_
                refine lv_iload hx hb d_M_build_115 (lv_at hl 6 rfl) ?_
                refine sd_iald (j := h) hx hb hK hP 8 0 rfl rfl (by omega) (by omega) d_M_build_117 ?_
                refine sd_top (y := bI (xb h)) (hxb h (by omega)) ?_
                refine lv_ixor hx hb d_M_build_118 ?_
                refine sd_top (y := bI (xb g ^^^ xb h)) (bI_xor _ _) ?_
                refine sd_callSI (As := [.int (bI (y ^^^ xb h)), .int (bI (xb g ^^^ xb h))]) (rest := [.int (bI (gf_R xb y g (gf_h cb (xb g) k 0#8) h))]) (cx := []) (w1 := []) (c_M_quotient l D cI cZ cQ (y ^^^ xb h) (xb g ^^^ xb h) (hne9)) ⟨wc_M_quotient, wm_M_88, wi_M, by decide, by decide, show (parseMethodDescriptor y_M_quotient.desc).map (fun d => d.parameters.length) = some 2 by decide +kernel⟩ ws_M_quotient hx hb hml hown hts hl.1 ⟨Nat.le_of_ble_eq_true rfl, Nat.le_of_ble_eq_true rfl⟩ ⟨Nat.le_of_ble_eq_true rfl, Nat.le_of_ble_eq_true rfl⟩ hK hP hD hS hA [] rfl (by decide) rfl rfl rfl (Nat.le_of_ble_eq_true rfl) d_M_build_119 (fun H locs hP hD hS => ?_)
                have hP : va_P D cls (mW cI cZ qm mp mt ml mc mf me mg mh mu (cd) (nI k) (nI n) (nI (pn)) (nI ((nx + (mb_o tk nx k nb (mv_f cb xb y k) g (0, zs_f k su, M)).1))) (ep) (nI (((mb_o tk nx k nb (mv_f cb xb y k) g (0, zs_f k su, M)).2.2).1)) (((mb_o tk nx k nb (mv_f cb xb y k) g (0, zs_f k su, M)).2.2).2.2.1) (((mb_o tk nx k nb (mv_f cb xb y k) g (0, zs_f k su, M)).2.2).2.2.2) (wi) (jb) (fp) (tf) (tt) (fi) (ln) (bI y) (1000) (pr) (1000) (tk) (8) (le) (576) (co) (576) (fr) (10) (em) (192) (((mb_o tk nx k nb (mv_f cb xb y k) g (0, zs_f k su, M)).2.2).2.1) (10) (nb) (10) ((mb_o tk nx k nb (mv_f cb xb y k) g (0, zs_f k su, M)).2.1)) H := hP
                have hD : va_D A (mW cI cZ qm mp mt ml mc mf me mg mh mu (cd) (nI k) (nI n) (nI (pn)) (nI ((nx + (mb_o tk nx k nb (mv_f cb xb y k) g (0, zs_f k su, M)).1))) (ep) (nI (((mb_o tk nx k nb (mv_f cb xb y k) g (0, zs_f k su, M)).2.2).1)) (((mb_o tk nx k nb (mv_f cb xb y k) g (0, zs_f k su, M)).2.2).2.2.1) (((mb_o tk nx k nb (mv_f cb xb y k) g (0, zs_f k su, M)).2.2).2.2.2) (wi) (jb) (fp) (tf) (tt) (fi) (ln) (bI y) (1000) (pr) (1000) (tk) (8) (le) (576) (co) (576) (fr) (10) (em) (192) (((mb_o tk nx k nb (mv_f cb xb y k) g (0, zs_f k su, M)).2.2).2.1) (10) (nb) (10) ((mb_o tk nx k nb (mv_f cb xb y k) g (0, zs_f k su, M)).2.1)) := hD
                refine sd_callSI (As := [.int (bI (gf_R xb y g (gf_h cb (xb g) k 0#8) h)), .int (bI (gf_m (y ^^^ xb h) (gf_i (xb g ^^^ xb h))))]) (rest := []) (cx := []) (w1 := []) (c_M_product l D cI cZ cQ (gf_R xb y g (gf_h cb (xb g) k 0#8) h) (gf_m (y ^^^ xb h) (gf_i (xb g ^^^ xb h)))) ⟨wc_M_product, wm_M_54, wi_M, by decide, by decide, show (parseMethodDescriptor y_M_product.desc).map (fun d => d.parameters.length) = some 2 by decide +kernel⟩ ws_M_product hx hb hml hown hts hl.1 ⟨Nat.le_of_ble_eq_true rfl, Nat.le_of_ble_eq_true rfl⟩ ⟨Nat.le_of_ble_eq_true rfl, Nat.le_of_ble_eq_true rfl⟩ hK hP hD hS hA [] rfl (by decide) rfl rfl rfl (Nat.le_of_ble_eq_true rfl) d_M_build_122 (fun H locs hP hD hS => ?_)
                have hP : va_P D cls (mW cI cZ qm mp mt ml mc mf me mg mh mu (cd) (nI k) (nI n) (nI (pn)) (nI ((nx + (mb_o tk nx k nb (mv_f cb xb y k) g (0, zs_f k su, M)).1))) (ep) (nI (((mb_o tk nx k nb (mv_f cb xb y k) g (0, zs_f k su, M)).2.2).1)) (((mb_o tk nx k nb (mv_f cb xb y k) g (0, zs_f k su, M)).2.2).2.2.1) (((mb_o tk nx k nb (mv_f cb xb y k) g (0, zs_f k su, M)).2.2).2.2.2) (wi) (jb) (fp) (tf) (tt) (fi) (ln) (bI y) (1000) (pr) (1000) (tk) (8) (le) (576) (co) (576) (fr) (10) (em) (192) (((mb_o tk nx k nb (mv_f cb xb y k) g (0, zs_f k su, M)).2.2).2.1) (10) (nb) (10) ((mb_o tk nx k nb (mv_f cb xb y k) g (0, zs_f k su, M)).2.1)) H := hP
                have hD : va_D A (mW cI cZ qm mp mt ml mc mf me mg mh mu (cd) (nI k) (nI n) (nI (pn)) (nI ((nx + (mb_o tk nx k nb (mv_f cb xb y k) g (0, zs_f k su, M)).1))) (ep) (nI (((mb_o tk nx k nb (mv_f cb xb y k) g (0, zs_f k su, M)).2.2).1)) (((mb_o tk nx k nb (mv_f cb xb y k) g (0, zs_f k su, M)).2.2).2.2.1) (((mb_o tk nx k nb (mv_f cb xb y k) g (0, zs_f k su, M)).2.2).2.2.2) (wi) (jb) (fp) (tf) (tt) (fi) (ln) (bI y) (1000) (pr) (1000) (tk) (8) (le) (576) (co) (576) (fr) (10) (em) (192) (((mb_o tk nx k nb (mv_f cb xb y k) g (0, zs_f k su, M)).2.2).2.1) (10) (nb) (10) ((mb_o tk nx k nb (mv_f cb xb y k) g (0, zs_f k su, M)).2.1)) := hD
                refine sd_top (y := bI (gf_R xb y g (gf_h cb (xb g) k 0#8) (h + 1))) (by rw [gf_Rn hgh]) ?_
                refine lv_istore hx hb d_M_build_125 hl (Nat.le_of_ble_eq_true rfl) (lv' := [(5, .int (bI (gf_R xb y g (gf_h cb (xb g) k 0#8) (h + 1)))), (0, .ref qm), (1, .int (nI f)), (2, .int (nI b)), (3, .int (nI (9 * (8 * f + b)))), (4, .int (nI (g))), (6, .int (nI (h)))]) rfl (fun ls hl => ?_)
                refine lv_iinc hx hb d_M_build_127 hl (k := 6) rfl (v := nI (h + 1)) (ii_1 _) (Nat.le_of_ble_eq_true rfl) (lv' := [(6, .int (nI (h + 1))), (5, .int (bI (gf_R xb y g (gf_h cb (xb g) k 0#8) (h + 1)))), (0, .ref qm), (1, .int (nI f)), (2, .int (nI b)), (3, .int (nI (9 * (8 * f + b)))), (4, .int (nI (g)))]) rfl (fun ls hl => ?_)
                refine lv_goto (tgt := 69) hx hb d_M_build_130 rfl ?_
                have hl := lv_sub hl (l' := [(0, .ref qm), (1, .int (nI f)), (2, .int (nI b)), (3, .int (nI (9 * (8 * f + b)))), (4, .int (nI (g))), (5, .int (bI (gf_R xb y g (gf_h cb (xb g) k 0#8) (h + 1)))), (6, .int (nI (h + 1)))]) [2, 3, 4, 5, 6, 1, 0] rfl
                exact ih69 _ (by omega) (h + 1) ls _ _ rfl (by omega) hl hP hD hS
              · skip
                have hgh : h = g := (nI_eq (by omega) (by omega)).mp hc82
                refine lv_iload hx hb d_M_build_85 (lv_at hl 5 rfl) ?_
                refine sd_top (y := bI (gf_R xb y g (gf_h cb (xb g) k 0#8) (h + 1))) (by rw [gf_Re hgh]) ?_
                refine lv_goto (tgt := 125) hx hb d_M_build_87 rfl ?_
                refine lv_istore hx hb d_M_build_125 hl (Nat.le_of_ble_eq_true rfl) (lv' := [(5, .int (bI (gf_R xb y g (gf_h cb (xb g) k 0#8) (h + 1)))), (0, .ref qm), (1, .int (nI f)), (2, .int (nI b)), (3, .int (nI (9 * (8 * f + b)))), (4, .int (nI (g))), (6, .int (nI (h)))]) rfl (fun ls hl => ?_)
                refine lv_iinc hx hb d_M_build_127 hl (k := 6) rfl (v := nI (h + 1)) (ii_1 _) (Nat.le_of_ble_eq_true rfl) (lv' := [(6, .int (nI (h + 1))), (5, .int (bI (gf_R xb y g (gf_h cb (xb g) k 0#8) (h + 1)))), (0, .ref qm), (1, .int (nI f)), (2, .int (nI b)), (3, .int (nI (9 * (8 * f + b)))), (4, .int (nI (g)))]) rfl (fun ls hl => ?_)
                refine lv_goto (tgt := 69) hx hb d_M_build_130 rfl ?_
                have hl := lv_sub hl (l' := [(0, .ref qm), (1, .int (nI f)), (2, .int (nI b)), (3, .int (nI (9 * (8 * f + b)))), (4, .int (nI (g))), (5, .int (bI (gf_R xb y g (gf_h cb (xb g) k 0#8) (h + 1)))), (6, .int (nI (h + 1)))]) [2, 3, 4, 5, 6, 1, 0] rfl
                exact ih69 _ (by omega) (h + 1) ls _ _ rfl (by omega) hl hP hD hS
          exact loop69 _ (0) ls _ _ rfl (Nat.zero_le _) hl hP hD hS
      exact loop39 _ (0) ls _ _ rfl (Nat.zero_le _) hl hP hD hS
    · skip
      rw [nI_leI (by omega) (by omega)] at hc19
      refine lv_aload_n hx hb d_M_build_22 rfl (lv_at hl 0 rfl) ?_
      refine va_get (D := D) (ci := 5) (v := .ref mu) (C := R_M) (T := F_M) (N := 26) hx hb hts wl_M hown hK hP 0 rfl rfl 25 (by decide) (hts _ wf_M_42) (fun _ h9 => h9) rfl d_M_build_23 ?_
      refine lv_iload hx hb d_M_build_26 (lv_at hl 4 rfl) ?_
      refine lv_iconst (v := 0) hx hb d_M_build_28 (by decide) ?_
      refine sd_iast (j := h) hx hb hK hP hD hS 9 0 rfl rfl (by omega) (by omega) d_M_build_29 (fun H locs hP hD hS => ?_)
      have hP : va_P D cls (mW cI cZ qm mp mt ml mc mf me mg mh mu (cd) (nI k) (nI n) (nI (pn)) (nI (nx)) (ep) (nI (M.1)) (M.2.2.1) (M.2.2.2) (wi) (jb) (fp) (tf) (tt) (fi) (ln) (bI y) (1000) (pr) (1000) (tk) (8) (le) (576) (co) (576) (fr) (10) (em) (192) (M.2.1) (10) (nb) (10) (upd (zs_f h su) (h) (0))) H := hP
      have hD : va_D A (mW cI cZ qm mp mt ml mc mf me mg mh mu (cd) (nI k) (nI n) (nI (pn)) (nI (nx)) (ep) (nI (M.1)) (M.2.2.1) (M.2.2.2) (wi) (jb) (fp) (tf) (tt) (fi) (ln) (bI y) (1000) (pr) (1000) (tk) (8) (le) (576) (co) (576) (fr) (10) (em) (192) (M.2.1) (10) (nb) (10) (upd (zs_f h su) (h) (0))) := hD
      refine lv_iinc hx hb d_M_build_30 hl (k := 4) rfl (v := nI (h + 1)) (ii_1 _) (Nat.le_of_ble_eq_true rfl) (lv' := [(4, .int (nI (h + 1))), (0, .ref qm), (1, .int (nI f)), (2, .int (nI b)), (3, .int (nI (9 * (8 * f + b))))]) rfl (fun ls hl => ?_)
      refine lv_goto (tgt := 13) hx hb d_M_build_33 rfl ?_
      have hl := lv_sub hl (l' := [(0, .ref qm), (1, .int (nI f)), (2, .int (nI b)), (3, .int (nI (9 * (8 * f + b)))), (4, .int (nI (h + 1)))]) [1, 2, 3, 4, 0] rfl
      exact ih13 _ (by omega) (h + 1) ls _ _ rfl (by omega) hl hP hD hS
  exact loop13 _ (0) ls _ _ rfl (Nat.zero_le _) hl hP hD hS
end
