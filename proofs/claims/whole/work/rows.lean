section
-- ===== PART A: goes FIRST, ahead of the names: the tables' words, and 'selects' of the private methods out of them =====
/-- a private method of a class that the tables say can be made, by its rows of tables_1 -/
def lw_okq (q : MethodName × Nat) : Prop := (q.1.cls ≠ "java/lang/invoke/MethodHandle" ∧ q.1.cls ≠ "java/lang/invoke/VarHandle") ∧ Cond.instantiable q.1.cls q.2 ∈ tables_1 ∧ Cond.privateMethod q.1 ∈ tables_1 ∧ Cond.instanceMethod q.1 ∈ tables_1
theorem lw_p0 : lw_okq (⟨"QueueReader", "refreshPlay", "()V"⟩, 6) := ⟨⟨by decide +kernel, by decide +kernel⟩, List.mem_of_getElem? (i := 17) (by decide +kernel), List.mem_of_getElem? (i := 201) (by decide +kernel), List.mem_of_getElem? (i := 202) (by decide +kernel)⟩
theorem lw_p1 : lw_okq (⟨"QueueReader$Play", "open", "(LQueueReader$Net;I)V"⟩, 8) := ⟨⟨by decide +kernel, by decide +kernel⟩, List.mem_of_getElem? (i := 144) (by decide +kernel), List.mem_of_getElem? (i := 209) (by decide +kernel), List.mem_of_getElem? (i := 210) (by decide +kernel)⟩
theorem lw_p2 : lw_okq (⟨"QueueReader$Play", "nextTick", "(LQueueReader$Net;)I"⟩, 8) := ⟨⟨by decide +kernel, by decide +kernel⟩, List.mem_of_getElem? (i := 144) (by decide +kernel), List.mem_of_getElem? (i := 217) (by decide +kernel), List.mem_of_getElem? (i := 218) (by decide +kernel)⟩
theorem lw_p3 : lw_okq (⟨"QueueReader$Play", "advance", "(LQueueReader$Net;I)V"⟩, 8) := ⟨⟨by decide +kernel, by decide +kernel⟩, List.mem_of_getElem? (i := 144) (by decide +kernel), List.mem_of_getElem? (i := 225) (by decide +kernel), List.mem_of_getElem? (i := 226) (by decide +kernel)⟩
theorem lw_p4 : lw_okq (⟨"QueueReader$Play", "finish", "(LQueueReader$Net;II)V"⟩, 8) := ⟨⟨by decide +kernel, by decide +kernel⟩, List.mem_of_getElem? (i := 144) (by decide +kernel), List.mem_of_getElem? (i := 229) (by decide +kernel), List.mem_of_getElem? (i := 230) (by decide +kernel)⟩
theorem lw_p5 : lw_okq (⟨"QueueReader$Play", "arrive", "(LQueueReader$Net;II)V"⟩, 8) := ⟨⟨by decide +kernel, by decide +kernel⟩, List.mem_of_getElem? (i := 144) (by decide +kernel), List.mem_of_getElem? (i := 238) (by decide +kernel), List.mem_of_getElem? (i := 239) (by decide +kernel)⟩
theorem lw_p6 : lw_okq (⟨"QueueReader$Play", "beginAt", "(LQueueReader$Net;II)V"⟩, 8) := ⟨⟨by decide +kernel, by decide +kernel⟩, List.mem_of_getElem? (i := 144) (by decide +kernel), List.mem_of_getElem? (i := 242) (by decide +kernel), List.mem_of_getElem? (i := 243) (by decide +kernel)⟩
theorem lw_p7 : lw_okq (⟨"QueueReader$Play", "firstWaiting", "(LQueueReader$Net;I)I"⟩, 8) := ⟨⟨by decide +kernel, by decide +kernel⟩, List.mem_of_getElem? (i := 144) (by decide +kernel), List.mem_of_getElem? (i := 246) (by decide +kernel), List.mem_of_getElem? (i := 247) (by decide +kernel)⟩
theorem lw_p8 : lw_okq (⟨"QueueReader", "gainAt", "(I)J"⟩, 6) := ⟨⟨by decide +kernel, by decide +kernel⟩, List.mem_of_getElem? (i := 17) (by decide +kernel), List.mem_of_getElem? (i := 282) (by decide +kernel), List.mem_of_getElem? (i := 283) (by decide +kernel)⟩
theorem lw_p9 : lw_okq (⟨"java/lang/Throwable", "fillInStackTrace", "(I)Ljava/lang/Throwable;"⟩, 6) := ⟨⟨by decide +kernel, by decide +kernel⟩, List.mem_of_getElem? (i := 356) (by decide +kernel), List.mem_of_getElem? (i := 354) (by decide +kernel), List.mem_of_getElem? (i := 355) (by decide +kernel)⟩
theorem lw_p10 : lw_okq (⟨"QueueReader", "needPlace", "(I)V"⟩, 6) := ⟨⟨by decide +kernel, by decide +kernel⟩, List.mem_of_getElem? (i := 17) (by decide +kernel), List.mem_of_getElem? (i := 414) (by decide +kernel), List.mem_of_getElem? (i := 415) (by decide +kernel)⟩
theorem lw_p11 : lw_okq (⟨"QueueReader", "needAsk", "(I)V"⟩, 6) := ⟨⟨by decide +kernel, by decide +kernel⟩, List.mem_of_getElem? (i := 17) (by decide +kernel), List.mem_of_getElem? (i := 454) (by decide +kernel), List.mem_of_getElem? (i := 455) (by decide +kernel)⟩
theorem lw_p12 : lw_okq (⟨"QueueReader", "needStep", "(II)I"⟩, 6) := ⟨⟨by decide +kernel, by decide +kernel⟩, List.mem_of_getElem? (i := 17) (by decide +kernel), List.mem_of_getElem? (i := 466) (by decide +kernel), List.mem_of_getElem? (i := 467) (by decide +kernel)⟩
theorem lw_p13 : lw_okq (⟨"QueueReader$Fit", "helpedAt", "(I)I"⟩, 7) := ⟨⟨by decide +kernel, by decide +kernel⟩, List.mem_of_getElem? (i := 115) (by decide +kernel), List.mem_of_getElem? (i := 532) (by decide +kernel), List.mem_of_getElem? (i := 533) (by decide +kernel)⟩
theorem lw_p14 : lw_okq (⟨"QueueReader$Fit", "isPossible", "(I)Z"⟩, 7) := ⟨⟨by decide +kernel, by decide +kernel⟩, List.mem_of_getElem? (i := 115) (by decide +kernel), List.mem_of_getElem? (i := 537) (by decide +kernel), List.mem_of_getElem? (i := 538) (by decide +kernel)⟩
theorem lw_p15 : lw_okq (⟨"QueueReader$Fit", "isIdleAt", "(II)Z"⟩, 7) := ⟨⟨by decide +kernel, by decide +kernel⟩, List.mem_of_getElem? (i := 115) (by decide +kernel), List.mem_of_getElem? (i := 541) (by decide +kernel), List.mem_of_getElem? (i := 542) (by decide +kernel)⟩
def lw_privs_1 : List (MethodName × Nat) := [(⟨"QueueReader", "refreshPlay", "()V"⟩, 6), (⟨"QueueReader$Play", "open", "(LQueueReader$Net;I)V"⟩, 8), (⟨"QueueReader$Play", "nextTick", "(LQueueReader$Net;)I"⟩, 8), (⟨"QueueReader$Play", "advance", "(LQueueReader$Net;I)V"⟩, 8), (⟨"QueueReader$Play", "finish", "(LQueueReader$Net;II)V"⟩, 8), (⟨"QueueReader$Play", "arrive", "(LQueueReader$Net;II)V"⟩, 8), (⟨"QueueReader$Play", "beginAt", "(LQueueReader$Net;II)V"⟩, 8), (⟨"QueueReader$Play", "firstWaiting", "(LQueueReader$Net;I)I"⟩, 8), (⟨"QueueReader", "gainAt", "(I)J"⟩, 6), (⟨"java/lang/Throwable", "fillInStackTrace", "(I)Ljava/lang/Throwable;"⟩, 6), (⟨"QueueReader", "needPlace", "(I)V"⟩, 6), (⟨"QueueReader", "needAsk", "(I)V"⟩, 6), (⟨"QueueReader", "needStep", "(II)I"⟩, 6), (⟨"QueueReader$Fit", "helpedAt", "(I)I"⟩, 7), (⟨"QueueReader$Fit", "isPossible", "(I)Z"⟩, 7), (⟨"QueueReader$Fit", "isIdleAt", "(II)Z"⟩, 7)]
theorem lw_r1 : ∀ q ∈ lw_privs_1, lw_okq q := List.forall_mem_cons.mpr ⟨lw_p0, List.forall_mem_cons.mpr ⟨lw_p1, List.forall_mem_cons.mpr ⟨lw_p2, List.forall_mem_cons.mpr ⟨lw_p3, List.forall_mem_cons.mpr ⟨lw_p4, List.forall_mem_cons.mpr ⟨lw_p5, List.forall_mem_cons.mpr ⟨lw_p6, List.forall_mem_cons.mpr ⟨lw_p7, List.forall_mem_cons.mpr ⟨lw_p8, List.forall_mem_cons.mpr ⟨lw_p9, List.forall_mem_cons.mpr ⟨lw_p10, List.forall_mem_cons.mpr ⟨lw_p11, List.forall_mem_cons.mpr ⟨lw_p12, List.forall_mem_cons.mpr ⟨lw_p13, List.forall_mem_cons.mpr ⟨lw_p14, List.forall_mem_cons.mpr ⟨lw_p15, fun _ h => absurd h List.not_mem_nil⟩⟩⟩⟩⟩⟩⟩⟩⟩⟩⟩⟩⟩⟩⟩⟩
theorem lw_p16 : lw_okq (⟨"QueueReader$Fit", "isLeftAt", "(II)Z"⟩, 7) := ⟨⟨by decide +kernel, by decide +kernel⟩, List.mem_of_getElem? (i := 115) (by decide +kernel), List.mem_of_getElem? (i := 545) (by decide +kernel), List.mem_of_getElem? (i := 546) (by decide +kernel)⟩
theorem lw_p17 : lw_okq (⟨"QueueReader$Fit", "isOrderedBy", "(I)Z"⟩, 7) := ⟨⟨by decide +kernel, by decide +kernel⟩, List.mem_of_getElem? (i := 115) (by decide +kernel), List.mem_of_getElem? (i := 549) (by decide +kernel), List.mem_of_getElem? (i := 550) (by decide +kernel)⟩
theorem lw_p18 : lw_okq (⟨"QueueReader$Fit", "isAhead", "(II)Z"⟩, 7) := ⟨⟨by decide +kernel, by decide +kernel⟩, List.mem_of_getElem? (i := 115) (by decide +kernel), List.mem_of_getElem? (i := 554) (by decide +kernel), List.mem_of_getElem? (i := 555) (by decide +kernel)⟩
theorem lw_p19 : lw_okq (⟨"QueueReader", "countsByTracks", "(IIII)J"⟩, 6) := ⟨⟨by decide +kernel, by decide +kernel⟩, List.mem_of_getElem? (i := 17) (by decide +kernel), List.mem_of_getElem? (i := 578) (by decide +kernel), List.mem_of_getElem? (i := 579) (by decide +kernel)⟩
theorem lw_p20 : lw_okq (⟨"QueueReader", "countsByPlay", "(IIII)J"⟩, 6) := ⟨⟨by decide +kernel, by decide +kernel⟩, List.mem_of_getElem? (i := 17) (by decide +kernel), List.mem_of_getElem? (i := 591) (by decide +kernel), List.mem_of_getElem? (i := 592) (by decide +kernel)⟩
theorem lw_p21 : lw_okq (⟨"QueueReaderModel", "throwsIf", "(ZI)Z"⟩, 19) := ⟨⟨by decide +kernel, by decide +kernel⟩, List.mem_of_getElem? (i := 610) (by decide +kernel), List.mem_of_getElem? (i := 688) (by decide +kernel), List.mem_of_getElem? (i := 689) (by decide +kernel)⟩
theorem lw_p22 : lw_okq (⟨"QueueReaderModel", "noPlace", "(I)Z"⟩, 19) := ⟨⟨by decide +kernel, by decide +kernel⟩, List.mem_of_getElem? (i := 610) (by decide +kernel), List.mem_of_getElem? (i := 696) (by decide +kernel), List.mem_of_getElem? (i := 697) (by decide +kernel)⟩
theorem lw_p23 : lw_okq (⟨"QueueReaderModel", "noAsk", "(I)Z"⟩, 19) := ⟨⟨by decide +kernel, by decide +kernel⟩, List.mem_of_getElem? (i := 610) (by decide +kernel), List.mem_of_getElem? (i := 709) (by decide +kernel), List.mem_of_getElem? (i := 710) (by decide +kernel)⟩
theorem lw_p24 : lw_okq (⟨"QueueReaderModel", "noStep", "(II)Z"⟩, 19) := ⟨⟨by decide +kernel, by decide +kernel⟩, List.mem_of_getElem? (i := 610) (by decide +kernel), List.mem_of_getElem? (i := 717) (by decide +kernel), List.mem_of_getElem? (i := 718) (by decide +kernel)⟩
theorem lw_p25 : lw_okq (⟨"QueueReaderModel", "plays", "(I)I"⟩, 19) := ⟨⟨by decide +kernel, by decide +kernel⟩, List.mem_of_getElem? (i := 610) (by decide +kernel), List.mem_of_getElem? (i := 730) (by decide +kernel), List.mem_of_getElem? (i := 731) (by decide +kernel)⟩
theorem lw_p26 : lw_okq (⟨"QueueReaderModel", "forgets", "()V"⟩, 19) := ⟨⟨by decide +kernel, by decide +kernel⟩, List.mem_of_getElem? (i := 610) (by decide +kernel), List.mem_of_getElem? (i := 734) (by decide +kernel), List.mem_of_getElem? (i := 735) (by decide +kernel)⟩
theorem lw_p27 : lw_okq (⟨"QueueReaderModel", "begins", "(IIII)V"⟩, 19) := ⟨⟨by decide +kernel, by decide +kernel⟩, List.mem_of_getElem? (i := 610) (by decide +kernel), List.mem_of_getElem? (i := 741) (by decide +kernel), List.mem_of_getElem? (i := 742) (by decide +kernel)⟩
theorem lw_p28 : lw_okq (⟨"QueueReaderModel", "busy", "(II)I"⟩, 19) := ⟨⟨by decide +kernel, by decide +kernel⟩, List.mem_of_getElem? (i := 610) (by decide +kernel), List.mem_of_getElem? (i := 745) (by decide +kernel), List.mem_of_getElem? (i := 746) (by decide +kernel)⟩
theorem lw_p29 : lw_okq (⟨"QueueReaderModel", "next", "(II)I"⟩, 19) := ⟨⟨by decide +kernel, by decide +kernel⟩, List.mem_of_getElem? (i := 610) (by decide +kernel), List.mem_of_getElem? (i := 749) (by decide +kernel), List.mem_of_getElem? (i := 750) (by decide +kernel)⟩
theorem lw_p30 : lw_okq (⟨"QueueReaderModel", "isAhead", "(III)Z"⟩, 19) := ⟨⟨by decide +kernel, by decide +kernel⟩, List.mem_of_getElem? (i := 610) (by decide +kernel), List.mem_of_getElem? (i := 753) (by decide +kernel), List.mem_of_getElem? (i := 754) (by decide +kernel)⟩
theorem lw_p31 : lw_okq (⟨"QueueReaderModel", "isStep", "(I)Z"⟩, 19) := ⟨⟨by decide +kernel, by decide +kernel⟩, List.mem_of_getElem? (i := 610) (by decide +kernel), List.mem_of_getElem? (i := 761) (by decide +kernel), List.mem_of_getElem? (i := 762) (by decide +kernel)⟩
def lw_privs_2 : List (MethodName × Nat) := [(⟨"QueueReader$Fit", "isLeftAt", "(II)Z"⟩, 7), (⟨"QueueReader$Fit", "isOrderedBy", "(I)Z"⟩, 7), (⟨"QueueReader$Fit", "isAhead", "(II)Z"⟩, 7), (⟨"QueueReader", "countsByTracks", "(IIII)J"⟩, 6), (⟨"QueueReader", "countsByPlay", "(IIII)J"⟩, 6), (⟨"QueueReaderModel", "throwsIf", "(ZI)Z"⟩, 19), (⟨"QueueReaderModel", "noPlace", "(I)Z"⟩, 19), (⟨"QueueReaderModel", "noAsk", "(I)Z"⟩, 19), (⟨"QueueReaderModel", "noStep", "(II)Z"⟩, 19), (⟨"QueueReaderModel", "plays", "(I)I"⟩, 19), (⟨"QueueReaderModel", "forgets", "()V"⟩, 19), (⟨"QueueReaderModel", "begins", "(IIII)V"⟩, 19), (⟨"QueueReaderModel", "busy", "(II)I"⟩, 19), (⟨"QueueReaderModel", "next", "(II)I"⟩, 19), (⟨"QueueReaderModel", "isAhead", "(III)Z"⟩, 19), (⟨"QueueReaderModel", "isStep", "(I)Z"⟩, 19)]
theorem lw_r2 : ∀ q ∈ lw_privs_2, lw_okq q := List.forall_mem_cons.mpr ⟨lw_p16, List.forall_mem_cons.mpr ⟨lw_p17, List.forall_mem_cons.mpr ⟨lw_p18, List.forall_mem_cons.mpr ⟨lw_p19, List.forall_mem_cons.mpr ⟨lw_p20, List.forall_mem_cons.mpr ⟨lw_p21, List.forall_mem_cons.mpr ⟨lw_p22, List.forall_mem_cons.mpr ⟨lw_p23, List.forall_mem_cons.mpr ⟨lw_p24, List.forall_mem_cons.mpr ⟨lw_p25, List.forall_mem_cons.mpr ⟨lw_p26, List.forall_mem_cons.mpr ⟨lw_p27, List.forall_mem_cons.mpr ⟨lw_p28, List.forall_mem_cons.mpr ⟨lw_p29, List.forall_mem_cons.mpr ⟨lw_p30, List.forall_mem_cons.mpr ⟨lw_p31, fun _ h => absurd h List.not_mem_nil⟩⟩⟩⟩⟩⟩⟩⟩⟩⟩⟩⟩⟩⟩⟩⟩
theorem lw_p32 : lw_okq (⟨"QueueReaderModel", "stepsOfAll", "()I"⟩, 19) := ⟨⟨by decide +kernel, by decide +kernel⟩, List.mem_of_getElem? (i := 610) (by decide +kernel), List.mem_of_getElem? (i := 765) (by decide +kernel), List.mem_of_getElem? (i := 766) (by decide +kernel)⟩
theorem lw_p33 : lw_okq (⟨"QueueReaderModel", "isWhole", "(I)Z"⟩, 19) := ⟨⟨by decide +kernel, by decide +kernel⟩, List.mem_of_getElem? (i := 610) (by decide +kernel), List.mem_of_getElem? (i := 777) (by decide +kernel), List.mem_of_getElem? (i := 778) (by decide +kernel)⟩
theorem lw_p34 : lw_okq (⟨"QueueReaderModel", "seenCame", "(I)I"⟩, 19) := ⟨⟨by decide +kernel, by decide +kernel⟩, List.mem_of_getElem? (i := 610) (by decide +kernel), List.mem_of_getElem? (i := 781) (by decide +kernel), List.mem_of_getElem? (i := 782) (by decide +kernel)⟩
theorem lw_p35 : lw_okq (⟨"QueueReaderModel", "agrees", "(III)Z"⟩, 19) := ⟨⟨by decide +kernel, by decide +kernel⟩, List.mem_of_getElem? (i := 610) (by decide +kernel), List.mem_of_getElem? (i := 785) (by decide +kernel), List.mem_of_getElem? (i := 786) (by decide +kernel)⟩
theorem lw_p36 : lw_okq (⟨"QueueReaderModel", "totalWith", "(I)J"⟩, 19) := ⟨⟨by decide +kernel, by decide +kernel⟩, List.mem_of_getElem? (i := 610) (by decide +kernel), List.mem_of_getElem? (i := 807) (by decide +kernel), List.mem_of_getElem? (i := 808) (by decide +kernel)⟩
def lw_privs_3 : List (MethodName × Nat) := [(⟨"QueueReaderModel", "stepsOfAll", "()I"⟩, 19), (⟨"QueueReaderModel", "isWhole", "(I)Z"⟩, 19), (⟨"QueueReaderModel", "seenCame", "(I)I"⟩, 19), (⟨"QueueReaderModel", "agrees", "(III)Z"⟩, 19), (⟨"QueueReaderModel", "totalWith", "(I)J"⟩, 19)]
theorem lw_r3 : ∀ q ∈ lw_privs_3, lw_okq q := List.forall_mem_cons.mpr ⟨lw_p32, List.forall_mem_cons.mpr ⟨lw_p33, List.forall_mem_cons.mpr ⟨lw_p34, List.forall_mem_cons.mpr ⟨lw_p35, List.forall_mem_cons.mpr ⟨lw_p36, fun _ h => absurd h List.not_mem_nil⟩⟩⟩⟩⟩
def lw_privs : List (MethodName × Nat) := lw_privs_1 ++ (lw_privs_2 ++ (lw_privs_3))
def lw_tbl : List Cond := k2_sels lw_privs ++ tables_1
theorem lw_privs_ok : ∀ q ∈ lw_privs, lw_okq q := by
  show ∀ q ∈ lw_privs_1 ++ (lw_privs_2 ++ (lw_privs_3)), lw_okq q
  exact List.forall_mem_append.mpr ⟨lw_r1, List.forall_mem_append.mpr ⟨lw_r2, lw_r3⟩⟩
end
section
/-! ===== BEGIN words of one list among another's, by their places ===== -/
theorem goodIn_r {big : List Cond} (ws : List Cond) (ps : List Nat) (hp : ws = ps.filterMap (fun i => big[i]?)) (h : ws.all goodWord = true) : GoodIn big ws := by
  intro w hw
  have h1 := List.all_eq_true.mp h w hw
  rw [hp] at hw
  obtain ⟨i, -, hi⟩ := List.mem_filterMap.mp hw
  have hm : w ∈ big := by first | exact List.mem_of_getElem? hi | exact List.getElem?_mem hi
  exact ⟨hm, good_of_word h1⟩
theorem goodIn_app {big a b : List Cond} (ha : GoodIn big a) (hb : GoodIn big b) : GoodIn big (a ++ b) := fun w h => (List.mem_append.mp h).elim (ha w) (hb w)
theorem goodIn_ca {big a b : List Cond} {c : Cond} (ha : GoodIn big (c :: a)) (hb : GoodIn big b) : GoodIn big (c :: (a ++ b)) := fun w h => (List.mem_cons.mp h).elim (fun e => ha w (List.mem_cons.mpr (Or.inl e))) (fun h => (List.mem_append.mp h).elim (fun h => ha w (List.mem_cons.mpr (Or.inr h))) (hb w))
theorem goodIn_sub {big ws : List Cond} (hm : ∀ w ∈ ws, w ∈ big) (h : ws.all goodWord = true) : GoodIn big ws := fun w hw => ⟨hm w hw, good_of_word (List.all_eq_true.mp h w hw)⟩
/-! ===== END ===== -/

/-! ===== BEGIN exceptions that leave a method, and their catching by the caller (launches without stack traces) ===== -/
section VXA
/-! The laws vx_back, vx_callV, vx_callS, vx_callSW, vx_throw0, vx_throwS follow proofs of the library, with one case more: JvmDerived/Free/Laws.lean (Back.of_free), Shelf42/LK1.lean (callV, callS), Shelf/KitTraced.lean (throwNew0V, throwNewS). -/
/-- where a method has thrown q: the class by its name, the cell, what was written, the world -/
def vx_T (XC : String → State → State → Prop) (st : State) (q : Addr) (t : State) (mc ms : Nat) (free : Addr → Prop) : Prop :=
  ∃ (E : String) (ce : Cell) (L : List Loc), XC E st t ∧ t.heap[q]? = some ce ∧ ce.vm = .none ∧ st.vm.findClass E = some ce.cls ∧ st.WarmedH t.vm ∧ st.sameButNew ({ t with vm := st.vm } : State) L mc ms ∧ ∀ z ∈ L, free z.base
def vx_Q (Qc : Array Value → State → Outcome → State → Prop) (XC : String → State → State → Prop) (mc ms : Nat) (free : Addr → Prop) : Array Value → State → Outcome → State → Prop := fun a st o t =>
  (Qc a st o t ∧ ∃ L, FrameEnd st o t L mc ms ∧ ∀ q ∈ L, free q.base) ∨ ∃ q, o = .threw q ∧ vx_T XC st q t mc ms free
/-- a callee that returns or throws -/
def vx_Met (l : Launch) (y : MethodName) (ws : List Cond) (rm : Room) (Pc : Array Value → State → Prop) (Qc : Array Value → State → Outcome → State → Prop) (XC : String → State → State → Prop) (mc ms : Nat) (free : Addr → Prop) : Prop :=
  MetFree l y (headSpec ws rm) Pc (fun _ _ _ _ _ => True) (vx_Q Qc XC mc ms free)
def vx_Post (XC : String → State → State → Prop) (mc ms : Nat) (free : Addr → Prop) : Pt → Array Value → Addr → Pt → Prop := fun A a q B =>
  ∃ (g : JFrame) (mk : MethodId) (t : State) (L : List Loc) (E : String) (ce : Cell), B.U.heap = t.heap ∧ B.U.vm = t.vm ∧ XC E (A.U.calling g mk a) t ∧ t.heap[q]? = some ce ∧ ce.vm = .none ∧ A.U.vm.findClass E = some ce.cls ∧ B.locs = A.locs ++ L ∧ (∀ z ∈ L, free z.base) ∧ B.cells = A.cells + mc ∧ B.slots = A.slots + ms
def vx_Back (l : Launch) (R : Room) (p : Program) (e : Env) (below : List Frame) (s : State) (sargs : Array Value) (y : MethodName) (len W9 : Nat)
    (Pre : Pt → Array Value → Prop) (Post : Pt → Array Value → Option Value → Pt → Prop) (PostX : Pt → Array Value → Addr → Pt → Prop) : Prop :=
  ∀ (m : MethodId) (meth : Method) (c : Code) (A : Pt) (g : JFrame) (ig : Instr) (mk : MethodId) (a : Array Value),
    Stand p l e R s m sargs below meth c A.U A.locs A.cells A.slots → g.method = m → g.locals.size = c.maxLocals → decode c.code g.pc = .ok (ig, len) →
    2 * g.monitorRoom + (g.stack.map fun v => v.category).sum ≤ W9 → A.U.methodNamed? y = some mk → Pre A a →
    (∃ (v : Option Value) (B : Pt), Stand p l e R s m sargs below meth c B.U B.locs B.cells B.slots ∧ Post A a v B ∧
      Steps p.tables e below (doInvoke e (A.U.setTop g) [] mk a).1 (B.U.setTop { g with pc := g.pc + len, stack := v.toList ++ g.stack })) ∨
    (∃ (q : Addr) (B : Pt), Stand p l e R s m sargs below meth c B.U B.locs B.cells B.slots ∧ PostX A a q B ∧
      Steps p.tables e below (doInvoke e (A.U.setTop g) [] mk a).1 ((B.U.setTop g).pushFrame (.throwing q)))
section Payer
variable {l : Launch} {R : Room} {p : Program} {e : Env} {below : List Frame} {s : State} {sargs : Array Value} {y : MethodName} {len W9 : Nat}
theorem vx_back {ws : List Cond} {rm : Room} {Pc : Array Value → State → Prop} {Qc : Array Value → State → Outcome → State → Prop} {XC : String → State → State → Prop} {mc ms : Nat} {free : Addr → Prop} {bytes : ByteArray} {maxL : Nat} {ret : Option FieldType}
    (hM : vx_Met l y ws rm Pc Qc XC mc ms free) (hblind : FrameBlind Pc) (hrc : rm.cells = mc) (hrs : rm.slots = ms)
    (hframes : rm.frames + 1 ≤ R.frames) (hlocals : W9 + (maxL + 11) + rm.locals ≤ R.locals)
    (hws : ∀ w ∈ ws, ∀ a' U, s.WarmedH U.vm → w.before a' U = true) (hcode : Cond.code y bytes maxL ret ∈ ws) (hinit : ∀ a' U, s.WarmedH U.vm → (Cond.initialized y.cls).before a' U = true) :
    vx_Back l R p e below s sargs y len W9 (PreOf R mc ms Pc) (PostOf Qc mc ms free) (vx_Post XC mc ms free) := by
  intro m meth c A g ig mk a X hg hsize hdg hW hn hp
  have h1 : (headSpec ws rm).pre.before a A.U = true := atoms_intro fun w hw => hws w hw _ _ X.warmed
  have h2 : (Cond.code y bytes maxL ret).before a A.U = true := hws _ hcode _ _ X.warmed
  have h3 : (Cond.initialized y.cls).before a A.U = true := hinit _ _ X.warmed
  have h4 : A.cells + (headSpec ws rm).room.cells ≤ R.cells := by rw [show (headSpec ws rm).room.cells = mc from hrc]; exact hp.1
  have h5 : A.slots + (headSpec ws rm).room.slots ≤ R.slots := by rw [show (headSpec ws rm).room.slots = ms from hrs]; exact hp.2.1
  have hPc : Pc a (A.U.calling g mk a) := hblind _ _ _ _ hp.2.2
  obtain ⟨U, Ls, c0, s0⟩ := A
  dsimp only [Pt.U, Pt.locs, Pt.cells, Pt.slots] at h1 h2 h3 h4 h5 X hn hPc ⊢
  obtain ⟨methY, cY, hmY, hcY, -, hlY, -, -, -, -⟩ := Cond.code_spec hn h2
  obtain ⟨kY, hkY, -⟩ := className_of_methodNamed hn
  have hinitY : kY.init = .initialized := Cond.initialized_spec (findClass_of_methodNamed hn) hkY h3
  have h : At U g.method c below := by rw [hg]; exact X.here
  have hlocals9 : W9 + (maxL + 11) + (headSpec ws rm).room.locals ≤ R.locals := hlocals
  have happ : (headSpec ws rm).appliesLoose y e.platform (U.calling g mk a) = true :=
    Spec.appliesLoose_calling (g := g) h hdg hn hkY hinitY
      (X.room_calling (g := g) (R' := (headSpec ws rm).room) hsize hmY hcY hframes (by rw [hlY]; omega) h4 h5) h1
  obtain ⟨mid, hmid⟩ := h.above
  have hfr : (U.setTop g).frames = (.java g :: mid) ++ below := by rw [State.frames_setTop' g h.top, hmid]; rfl
  obtain ⟨o, s₂, hsteps, -, hend, hq⟩ := Steps.callFree hM p X.admits X.cas X.clock (acts := []) hfr happ hPc trivial
  have hq' : vx_Q Qc XC mc ms free a (U.calling g mk a) o s₂ := hq
  rw [State.frames_setTop' g h.top] at hend
  obtain ⟨g₀, hg0⟩ := Option.isSome_iff_exists.mp h.top
  obtain ⟨r, hr⟩ := State.topJava?_eq_some.mp hg0
  have hr' : (({ U with heap := s₂.heap, slotsUsed := s₂.slotsUsed } : State).setVm s₂.vm).frames = .java g₀ :: r := hr
  rcases hq' with ⟨hqc, L, hfe, hL⟩ | ⟨q, rfl, E, ce, L, hx, hce, hcv, hcl, hW₂, hsm, hL⟩
  · obtain ⟨⟨v, rfl⟩, hW₂, e2, q2, q3, q4, q5, q6⟩ := id hfe
    have e3 : s₂ = ({ (U.calling g mk a).setFrames s₂.frames with heap := s₂.heap, slotsUsed := s₂.slotsUsed } : State).setVm s₂.vm := by
      have : s₂ = ({ s₂ with vm := (U.calling g mk a).vm } : State).setVm s₂.vm := rfl
      rw [e2] at this
      exact this
    obtain ⟨c₂, i₂, len₂, hc₂, hd₂, hf₂⟩ := hend
    have hW' : U.WarmedH s₂.vm := hW₂
    have hcc : c₂ = c := by
      have h1 : s₂.code? g.method = U.code? g.method := by
        rw [State.code?_eq, State.code?_eq, hW'.alike.method?]
      exact Option.some.inj (hc₂.symm.trans (h1.trans h.code))
    subst hcc
    have hlen : len₂ = len := by rw [hdg] at hd₂; cases hd₂; rfl
    subst hlen
    have hs₂ : s₂ = (({ U with heap := s₂.heap, slotsUsed := s₂.slotsUsed } : State).setVm s₂.vm).setTop { g with pc := g.pc + len₂, stack := v.toList ++ g.stack } := by
      refine e3.trans ?_
      rw [hf₂, State.calling_eq h.top, State.setFrames_setFrames, State.setTop_of_frames _ hr', hr]
      rfl
    have hsame : U.sameButNew ({ U with heap := s₂.heap, slotsUsed := s₂.slotsUsed } : State) L mc ms := by
      refine ⟨?_, q2, q3, q4, q5, q6⟩
      obtain ⟨t, ht, -⟩ := State.frames_cons hr
      show ({ U with heap := s₂.heap, slotsUsed := s₂.slotsUsed } : State) = { U.setFrames U.frames with heap := s₂.heap, slotsUsed := s₂.slotsUsed }
      rw [State.setFrames_self ht]
    subst hg
    refine Or.inl ⟨v, ⟨(({ U with heap := s₂.heap, slotsUsed := s₂.slotsUsed } : State).setVm s₂.vm), Ls ++ L, c0 + mc, s0 + ms⟩,
      ⟨X.admits, X.cas, X.clock, X.frames, X.room, X.hears, X.method, X.code, (X.here.setHeapUsed s₂.heap s₂.slotsUsed).setVm hW'.alike, X.tail, State.WarmedH.trans X.warmed hW', X.limits, X.bytes, X.same.trans (hsame.setVm s.vm)⟩,
      ⟨g, mk, s₂, L, rfl, rfl, hqc, rfl, hL, rfl, rfl⟩, ?_⟩
    show Steps p.tables e below _ ((({ U with heap := s₂.heap, slotsUsed := s₂.slotsUsed } : State).setVm s₂.vm).setTop { g with pc := g.pc + len₂, stack := v.toList ++ g.stack })
    rw [← hs₂]
    exact hsteps
  · obtain ⟨e2, q2, q3, q4, q5, q6⟩ := id hsm
    have e3 : s₂ = ({ (U.calling g mk a).setFrames s₂.frames with heap := s₂.heap, slotsUsed := s₂.slotsUsed } : State).setVm s₂.vm := by
      have : s₂ = ({ s₂ with vm := (U.calling g mk a).vm } : State).setVm s₂.vm := rfl
      rw [e2] at this
      exact this
    have hf₂ : s₂.frames = .throwing q :: .java g :: U.frames.tail := hend
    have hW' : U.WarmedH s₂.vm := hW₂
    have hs₂ : s₂ = ((({ U with heap := s₂.heap, slotsUsed := s₂.slotsUsed } : State).setVm s₂.vm).setTop g).pushFrame (.throwing q) := by
      refine e3.trans ?_
      rw [hf₂, State.calling_eq h.top, State.setFrames_setFrames, State.pushFrame, State.frames_setTop _ hr', State.setTop_of_frames _ hr', State.setFrames_setFrames, hr]
      rfl
    have hsame : U.sameButNew ({ U with heap := s₂.heap, slotsUsed := s₂.slotsUsed } : State) L mc ms := by
      refine ⟨?_, q2, q3, q4, q5, q6⟩
      obtain ⟨t, ht, -⟩ := State.frames_cons hr
      show ({ U with heap := s₂.heap, slotsUsed := s₂.slotsUsed } : State) = { U.setFrames U.frames with heap := s₂.heap, slotsUsed := s₂.slotsUsed }
      rw [State.setFrames_self ht]
    subst hg
    refine Or.inr ⟨q, ⟨(({ U with heap := s₂.heap, slotsUsed := s₂.slotsUsed } : State).setVm s₂.vm), Ls ++ L, c0 + mc, s0 + ms⟩,
      ⟨X.admits, X.cas, X.clock, X.frames, X.room, X.hears, X.method, X.code, (X.here.setHeapUsed s₂.heap s₂.slotsUsed).setVm hW'.alike, X.tail, State.WarmedH.trans X.warmed hW', X.limits, X.bytes, X.same.trans (hsame.setVm s.vm)⟩,
      ⟨g, mk, s₂, L, E, ce, rfl, rfl, hx, hce, hcv, hcl, rfl, hL, rfl, rfl⟩, ?_⟩
    show Steps p.tables e below _ (((({ U with heap := s₂.heap, slotsUsed := s₂.slotsUsed } : State).setVm s₂.vm).setTop g).pushFrame (.throwing q))
    rw [← hs₂]
    exact hsteps
end Payer
section Calls
variable {p : Program} {l : Launch} {e : Env} {R : Room} {s : State} {m : MethodId} {args : Array Value} {below : List Frame} {meth : Method} {c : Code} {T : State} {locs : List Loc} {cells slots : Nat}
theorem vx_callV (X : Stand p l e R s m args below meth c T locs cells slots) (hexec : p.tables.exec = Jvm.exec) {own C : String} {index : Nat} {y : MethodName} {bytes : ByteArray} {maxL : Nat} {ret : Option FieldType}
    (hown : s.vm.findClass own = some m.cls) (hlink : (Cond.methodLink own index y).before args s = true) (hinst : (Cond.instanceMethod y).before args s = true) (hsel : (Cond.selects C y y).before args s = true)
    (hcode : (Cond.code y bytes maxL ret).before args s = true) (hy : y.cls ≠ "java/lang/invoke/MethodHandle" ∧ y.cls ≠ "java/lang/invoke/VarHandle")
    {W9 : Nat} {Pre : Pt → Array Value → Prop} {Post : Pt → Array Value → Option Value → Pt → Prop} {PostX : Pt → Array Value → Addr → Pt → Prop} (hK : vx_Back l R p e below s args y 3 W9 Pre Post PostX)
    {b : Addr} {cellB : Cell} (hcell : T.heap[b]? = some cellB) (hobj : cellB.vm.isStatics = false) (hcls : s.vm.findClass C = some cellB.cls)
    {g : JFrame} (hg : g.method = m) (hsize : g.locals.size = c.maxLocals) {argsL rest : List Value} (hlen : ∀ sig, parseMethodDescriptor y.desc = some sig → argsL.length = sig.parameters.length)
    (hstack : g.stack = argsL.reverse ++ .ref b :: rest) (hW : 2 * g.monitorRoom + (rest.map fun v => v.category).sum ≤ W9) (hdg : decode c.code g.pc = .ok (.invokevirtual index, 3))
    (hpre : ∀ vm₁, s.WarmedH vm₁ → Pre ⟨T.setVm vm₁, locs, cells, slots⟩ (Value.ref b :: argsL).toArray) :
    (∃ (v : Option Value) (vm₁ : Vm) (B : Pt), s.WarmedH vm₁ ∧ Stand p l e R s m args below meth c B.U B.locs B.cells B.slots ∧ Post ⟨T.setVm vm₁, locs, cells, slots⟩ (Value.ref b :: argsL).toArray v B ∧
      ∀ target, Steps p.tables e below (B.U.setTop { g with pc := g.pc + 3, stack := v.toList ++ rest }) target → Steps p.tables e below (T.setTop g) target) ∨
    (∃ (q : Addr) (vm₁ : Vm) (B : Pt), s.WarmedH vm₁ ∧ Stand p l e R s m args below meth c B.U B.locs B.cells B.slots ∧ PostX ⟨T.setVm vm₁, locs, cells, slots⟩ (Value.ref b :: argsL).toArray q B ∧
      Steps p.tables e below (T.setTop g) ((B.U.setTop { g with stack := rest }).pushFrame (.throwing q))) := by
  obtain ⟨mk, methM, hnamed, hmethM, hstM, habM⟩ := Cond.instanceMethod_spec hinst
  obtain ⟨methM', cM, hmethM', -, -, -, -, -, -, hsigM⟩ := Cond.code_spec hnamed hcode
  cases hmethM.symm.trans hmethM'
  obtain ⟨c2, r2, m2, q1, q2, q3, q4, kP, hkP, hkPi⟩ := Cond.selects_spec hsel
  cases hcls.symm.trans q1
  cases (State.methodFound?_of_named hnamed hy).symm.trans q2
  cases hnamed.symm.trans q3
  have hselP : selectMethod e.platform s.vm cellB.cls mk = .method mk := by rw [Launch.admits_selectMethod X.admits]; exact q4
  obtain ⟨vm₁, X₁, hstep₁⟩ := X.invokevirtual hexec hown hlink hnamed hmethM hstM hkP hkPi hy (a := b) (cell := cellB) hcell
    (fun z h => by rw [h] at hobj; cases hobj) hselP hmethM habM hkP hkPi (g := g) hg (argsL := argsL) (rest := rest) (hlen _ hsigM) hstack hdg
  rcases hK m meth c ⟨T.setVm vm₁, locs, cells, slots⟩ { g with stack := rest } (.invokevirtual index) mk (Value.ref b :: argsL).toArray X₁ hg hsize hdg hW (X₁.named hnamed) (hpre vm₁ X₁.warmed) with ⟨v, B, X', hpost, hsteps⟩ | ⟨q, B, X', hpost, hsteps⟩
  · exact Or.inl ⟨v, vm₁, B, X₁.warmed, X', hpost, fun target h => hstep₁ _ fun acts => by rw [doInvoke_state]; exact hsteps.trans h⟩
  · exact Or.inr ⟨q, vm₁, B, X₁.warmed, X', hpost, hstep₁ _ fun acts => by rw [doInvoke_state]; exact hsteps⟩
theorem vx_callS (X : Stand p l e R s m args below meth c T locs cells slots) (hexec : p.tables.exec = Jvm.exec) {own : String} {index : Nat} {y : MethodName} {bytes : ByteArray} {maxL : Nat} {ret : Option FieldType}
    (hown : s.vm.findClass own = some m.cls) (hlink : (Cond.methodLink own index y).before args s = true) (hstat : (Cond.static y).before args s = true) (hinit : (Cond.initialized y.cls).before args s = true)
    (hcode : (Cond.code y bytes maxL ret).before args s = true) (hy : y.cls ≠ "java/lang/invoke/MethodHandle" ∧ y.cls ≠ "java/lang/invoke/VarHandle")
    {W9 : Nat} {Pre : Pt → Array Value → Prop} {Post : Pt → Array Value → Option Value → Pt → Prop} {PostX : Pt → Array Value → Addr → Pt → Prop} (hK : vx_Back l R p e below s args y 3 W9 Pre Post PostX)
    {g : JFrame} (hg : g.method = m) (hsize : g.locals.size = c.maxLocals) {argsL rest : List Value} (hlen : ∀ sig, parseMethodDescriptor y.desc = some sig → argsL.length = sig.parameters.length)
    (hstack : g.stack = argsL.reverse ++ rest) (hW : 2 * g.monitorRoom + (rest.map fun v => v.category).sum ≤ W9) (hdg : decode c.code g.pc = .ok (.invokestatic index, 3))
    (hpre : ∀ vm₁, s.WarmedH vm₁ → Pre ⟨T.setVm vm₁, locs, cells, slots⟩ argsL.toArray) :
    (∃ (v : Option Value) (vm₁ : Vm) (B : Pt), s.WarmedH vm₁ ∧ Stand p l e R s m args below meth c B.U B.locs B.cells B.slots ∧ Post ⟨T.setVm vm₁, locs, cells, slots⟩ argsL.toArray v B ∧
      ∀ target, Steps p.tables e below (B.U.setTop { g with pc := g.pc + 3, stack := v.toList ++ rest }) target → Steps p.tables e below (T.setTop g) target) ∨
    (∃ (q : Addr) (vm₁ : Vm) (B : Pt), s.WarmedH vm₁ ∧ Stand p l e R s m args below meth c B.U B.locs B.cells B.slots ∧ PostX ⟨T.setVm vm₁, locs, cells, slots⟩ argsL.toArray q B ∧
      Steps p.tables e below (T.setTop g) ((B.U.setTop { g with stack := rest }).pushFrame (.throwing q))) := by
  obtain ⟨mk, hnamed⟩ := Cond.code_named hcode
  obtain ⟨methM, cM, hmethM, -, -, -, -, -, -, hsigM⟩ := Cond.code_spec hnamed hcode
  have hstatic : methM.isStatic = true := Cond.static_spec hnamed hmethM hstat
  obtain ⟨kP, hkP, -⟩ := className_of_methodNamed hnamed
  have hinitP : kP.init = .initialized := Cond.initialized_spec (findClass_of_methodNamed hnamed) hkP hinit
  obtain ⟨vm₁, X₁, hstep₁⟩ := X.invokestatic hexec hown hlink hnamed hmethM hstatic hkP hinitP hy (g := g) hg (argsL := argsL) (rest := rest) (hlen _ hsigM) hstack hdg
  rcases hK m meth c ⟨T.setVm vm₁, locs, cells, slots⟩ { g with stack := rest } (.invokestatic index) mk argsL.toArray X₁ hg hsize hdg hW (X₁.named hnamed) (hpre vm₁ X₁.warmed) with ⟨v, B, X', hpost, hsteps⟩ | ⟨q, B, X', hpost, hsteps⟩
  · exact Or.inl ⟨v, vm₁, B, X₁.warmed, X', hpost, fun target h => hstep₁ _ fun acts => by rw [doInvoke_state]; exact hsteps.trans h⟩
  · exact Or.inr ⟨q, vm₁, B, X₁.warmed, X', hpost, hstep₁ _ fun acts => by rw [doInvoke_state]; exact hsteps⟩
end Calls
theorem vx_cls {s : State} {T : State} {vm₁ : Vm} {E : String} {k : ClassId} (hW : s.WarmedH vm₁) (h : (T.setVm vm₁).vm.findClass E = some k) : s.vm.findClass E = some k := by
  have h1 : vm₁.findClass E = some k := h
  rw [hW.alike.findClass] at h1
  exact h1
/-- the method's frame g, with q thrown over it -/
def vx_W (p : Program) (l : Launch) (e : Env) (R : Room) (s : State) (m : MethodId) (args : Array Value) (below : List Frame) (meth : Method) (c : Code) (H : Heap) (locs : List Loc) (cells slots : Nat) (Q : State → Prop) (g : JFrame) (q : Addr) : Prop :=
  ∀ T : State, T.heap = H → Stand p l e R s m args below meth c T locs cells slots → ∃ t, Steps p.tables e below ((T.setTop g).pushFrame (.throwing q)) t ∧ Q t
def vx_Run (p : Program) (l : Launch) (e : Env) (R : Room) (s : State) (m : MethodId) (args : Array Value) (below : List Frame) (meth : Method) (c : Code) (H : Heap) (locs : List Loc) (cells slots mc ms : Nat) (g : JFrame) (rest : List Value) (Qa : State → Outcome → State → Prop) (XC : String → State → State → Prop) (free : Addr → Prop) : Prop :=
  ∀ T : State, T.heap = H → Stand p l e R s m args below meth c T locs cells slots →
    (∃ (v : Option Value) (st₀ t T' : State) (L : List Loc), st₀.heap = H ∧ Stand p l e R s m args below meth c T' (locs ++ L) (cells + mc) (slots + ms) ∧ (∀ q ∈ L, free q.base) ∧ T'.heap = t.heap ∧ T'.vm = t.vm ∧ Qa st₀ (.returned v) t ∧
      Goes p e below T g T' { g with pc := g.pc + 3, stack := v.toList ++ rest }) ∨
    (∃ (q : Addr) (st₀ t T' : State) (L : List Loc) (E : String) (ce : Cell), st₀.heap = H ∧ Stand p l e R s m args below meth c T' (locs ++ L) (cells + mc) (slots + ms) ∧ (∀ z ∈ L, free z.base) ∧ T'.heap = t.heap ∧ T'.vm = t.vm ∧ XC E st₀ t ∧ t.heap[q]? = some ce ∧ ce.vm = .none ∧ s.vm.findClass E = some ce.cls ∧
      Steps p.tables e below (T.setTop g) ((T'.setTop { g with stack := rest }).pushFrame (.throwing q)))
def vx_X {S : Type} (px : S → Prop) (B : String → S → State → Prop) (A : Nat → Prop) : String → State → State → Prop := fun E st t => ∃ u : S, px u ∧ B E u t ∧ va_F A st t
section Runs
variable {p : Program} {l : Launch} {e : Env} {R : Room} {s : State} {m : MethodId} {args : Array Value} {below : List Frame} {meth : Method} {c : Code} {H : Heap} {locs : List Loc} {cells slots : Nat}
variable {y : MethodName} {bytes cc : ByteArray} {maxL nL mc ms n index : Nat} {ret : Option FieldType} {ws : List Cond} {rm : Room} {Pc : Array Value → State → Prop} {Qc : Array Value → State → Outcome → State → Prop} {XC : String → State → State → Prop} {free : Addr → Prop} {Ts : List Cond} {own C : String} {b : Addr} {As rest : List Value} {g : JFrame}
theorem vx_callBack (cb : CallB R s args own index y bytes maxL ret ws rm mc ms n) (hM : vx_Met l y ws rm Pc Qc XC mc ms free) (hbl : FrameBlind Pc) : vx_Back l R p e below s args y 3 8 (PreOf R mc ms Pc) (PostOf Qc mc ms free) (vx_Post XC mc ms free) := by
  obtain ⟨hrc, hrs, hfr, hlo, hws, hcw, -, hini, -⟩ := cb
  exact vx_back (bytes := bytes) (maxL := maxL) (ret := ret) hM hbl hrc hrs hfr hlo hws hcw (fun a' U hW => word_at hW (Or.inl (by first | rfl | simp [Cond.onTables, Cond.keeps, Cond.steady])) hini)
theorem vx_runV (S : CallFix p m c cc nL s args Ts own) (hM : vx_Met l y ws rm Pc Qc XC mc ms free) (cw : CallW R s args own C index y bytes maxL ret ws rm mc ms n) (hp : PreV s H C b Pc As)
    (hg : g.method = m) (hn : As.length = n) (hsize : g.locals.size = nL) (hstack : g.stack = As.reverse ++ .ref b :: rest) (hW : 2 * g.monitorRoom + (rest.map fun v => v.category).sum ≤ 8) (hdg : decode cc g.pc = .ok (.invokevirtual index, 3)) (hf : cells + mc ≤ R.cells ∧ slots + ms ≤ R.slots) :
    vx_Run p l e R s m args below meth c H locs cells slots mc ms g rest (Qc (Value.ref b :: As).toArray) XC free := by
  have hK : vx_Back l R p e below s args y 3 8 (PreOf R mc ms Pc) (PostOf Qc mc ms free) (vx_Post XC mc ms free) := vx_callBack cw.1 hM hp.1
  obtain ⟨⟨-, -, -, -, -, -, hcode, -, hy, hlen, hl⟩, hin, hse⟩ := cw
  obtain ⟨hx, hb, hml, ho, -⟩ := S
  obtain ⟨-, ⟨cellB, hcB, hoB, hclB⟩, hPc⟩ := hp
  intro T hT X
  rcases vx_callV X hx (C := C) (bytes := bytes) (maxL := maxL) (ret := ret) ho hl hin hse hcode hy hK (by rw [hT]; exact hcB) hoB hclB hg (hsize.trans hml.symm) (argsL := As) (rest := rest) (fun sig h => hn.trans (hlen sig h)) hstack hW (by rw [hb]; exact hdg)
    (fun vm₁ hW₁ => ⟨hf.1, hf.2, hPc (T.setVm vm₁) hT hW₁⟩) with ⟨v, vm₁, ⟨U', l2, c2, s2⟩, hW₁, X', ⟨g', mk, t, L, e1, e2, hq, h1, hL, h2, h3⟩, st⟩ | ⟨q, vm₁, ⟨U', l2, c2, s2⟩, hW₁, X', ⟨g', mk, t, L, E, ce, e1, e2, hq, hce, hcv, hcl, h1, hL, h2, h3⟩, st⟩
  · dsimp only [Pt.U, Pt.locs, Pt.cells, Pt.slots] at X' e1 e2 h1 h2 h3 st
    subst h1; subst h2; subst h3
    exact Or.inl ⟨v, (T.setVm vm₁).calling g' mk (Value.ref b :: As).toArray, t, U', L, hT, X', hL, e1, e2, hq, st⟩
  · dsimp only [Pt.U, Pt.locs, Pt.cells, Pt.slots] at X' e1 e2 h1 h2 h3 st hcl
    subst h1; subst h2; subst h3
    exact Or.inr ⟨q, (T.setVm vm₁).calling g' mk (Value.ref b :: As).toArray, t, U', L, E, ce, hT, X', hL, e1, e2, hq, hce, hcv, vx_cls hW₁ hcl, st⟩
theorem vx_runS (S : CallFix p m c cc nL s args Ts own) (hM : vx_Met l y ws rm Pc Qc XC mc ms free) (cw : CallB R s args own index y bytes maxL ret ws rm mc ms n ∧ (Cond.static y).before args s = true) (hp : PreS s H Pc As)
    (hg : g.method = m) (hn : As.length = n) (hsize : g.locals.size = nL) (hstack : g.stack = As.reverse ++ rest) (hW : 2 * g.monitorRoom + (rest.map fun v => v.category).sum ≤ 8) (hdg : decode cc g.pc = .ok (.invokestatic index, 3)) (hf : cells + mc ≤ R.cells ∧ slots + ms ≤ R.slots) :
    vx_Run p l e R s m args below meth c H locs cells slots mc ms g rest (Qc As.toArray) XC free := by
  have hK : vx_Back l R p e below s args y 3 8 (PreOf R mc ms Pc) (PostOf Qc mc ms free) (vx_Post XC mc ms free) := vx_callBack cw.1 hM hp.1
  obtain ⟨⟨-, -, -, -, -, -, hcode, hini, hy, hlen, hl⟩, hstt⟩ := cw
  obtain ⟨hx, hb, hml, ho, -⟩ := S
  intro T hT X
  rcases vx_callS X hx (bytes := bytes) (maxL := maxL) (ret := ret) ho hl hstt hini hcode hy hK hg (hsize.trans hml.symm) (argsL := As) (rest := rest) (fun sig h => hn.trans (hlen sig h)) hstack hW (by rw [hb]; exact hdg)
    (fun vm₁ hW₁ => ⟨hf.1, hf.2, hp.2 (T.setVm vm₁) hT hW₁⟩) with ⟨v, vm₁, ⟨U', l2, c2, s2⟩, hW₁, X', ⟨g', mk, t, L, e1, e2, hq, h1, hL, h2, h3⟩, st⟩ | ⟨q, vm₁, ⟨U', l2, c2, s2⟩, hW₁, X', ⟨g', mk, t, L, E, ce, e1, e2, hq, hce, hcv, hcl, h1, hL, h2, h3⟩, st⟩
  · dsimp only [Pt.U, Pt.locs, Pt.cells, Pt.slots] at X' e1 e2 h1 h2 h3 st
    subst h1; subst h2; subst h3
    exact Or.inl ⟨v, (T.setVm vm₁).calling g' mk As.toArray, t, U', L, hT, X', hL, e1, e2, hq, st⟩
  · dsimp only [Pt.U, Pt.locs, Pt.cells, Pt.slots] at X' e1 e2 h1 h2 h3 st hcl
    subst h1; subst h2; subst h3
    exact Or.inr ⟨q, (T.setVm vm₁).calling g' mk As.toArray, t, U', L, E, ce, hT, X', hL, e1, e2, hq, hce, hcv, vx_cls hW₁ hcl, st⟩
end Runs
section Rows
variable {p : Program} {l : Launch} {e : Env} {R : Room} {s : State} {m : MethodId} {args : Array Value} {below : List Frame} {meth : Method} {c : Code} {H : Heap} {locs : List Loc} {cells slots : Nat} {Q : State → Prop}
variable {mc ms : Nat} {free : Addr → Prop} {A0 A1 : Nat → Prop} {H0 : Heap} {a : Array Value} {pc : Nat} {ls : Array Slot} {st0 rest : List Value}
theorem vx_keep {st₀ t T' : State} {L : List Loc} (h0 : st₀.heap = H) (e1 : T'.heap = t.heap) (hS : va_S A0 H0 H locs) (hA : ∀ q, q < H.size → A1 q → A0 q) (hf : ∀ q, free q → A0 q) (hL : ∀ q ∈ L, free q.base) (hF : va_F A1 st₀ t) :
    H.size ≤ T'.heap.size ∧ (∀ q : Nat, q < H.size → ¬ A1 q → T'.heap[q]? = H[q]?) ∧ va_S A0 H0 T'.heap (locs ++ L) := by
  obtain ⟨hz, hk⟩ := hF
  rw [h0] at hz hk
  exact ⟨by rw [e1]; exact hz, fun q h1 h2 => by rw [e1]; exact hk q h1 h2,
    ⟨Nat.le_trans hS.1 (by rw [e1]; exact hz), fun q h1 h2 => by rw [e1, hk q (Nat.lt_of_lt_of_le h1 hS.1) (fun z => h2 (hA q (Nat.lt_of_lt_of_le h1 hS.1) z))]; exact hS.2.1 q h1 h2, fun q hq => by
      rcases List.mem_append.mp hq with h | h
      · exact hS.2.2 q h
      · exact hf _ (hL q h)⟩⟩
theorem vx_calli {S SX : Type} {post : Int32 → S → Prop} {px : SX → Prop} {B : S → State → Prop} {BX : String → SX → State → Prop} {AX : Nat → Prop} (hr : vx_Run p l e R s m args below meth c H locs cells slots mc ms (F0 m pc ls st0) rest (va_Qi post B A1 a) (vx_X px BX AX) free) (hS : va_S A0 H0 H locs) (hA : ∀ q, q < H.size → A1 q → A0 q) (hf : ∀ q, free q → A0 q) (hAX : ∀ q, q < H.size → AX q → A0 q)
    (kx : ∀ (E : String) (ce : Cell) (q9 : Addr) (u : SX) (t : State) (H1 : Heap) (locs1 : List Loc), t.heap = H1 → s.vm.Alike t.vm → px u → BX E u t → H.size ≤ H1.size → (∀ q : Nat, q < H.size → ¬ AX q → H1[q]? = H[q]?) → va_S A0 H0 H1 locs1 → H1[q9]? = some ce → ce.vm = .none → s.vm.findClass E = some ce.cls → vx_W p l e R s m args below meth c H1 locs1 (cells + mc) (slots + ms) Q (F0 m pc ls rest) q9)
    (kk : ∀ (r : Int32) (u : S) (t : State) (H1 : Heap) (locs1 : List Loc), t.heap = H1 → s.vm.Alike t.vm → post r u → B u t → H.size ≤ H1.size → (∀ q : Nat, q < H.size → ¬ A1 q → H1[q]? = H[q]?) → va_S A0 H0 H1 locs1 → W p l e R s m args below meth c H1 locs1 (cells + mc) (slots + ms) Q (F0 m (pc + 3) ls (.int r :: rest))) : W p l e R s m args below meth c H locs cells slots Q (F0 m pc ls st0) := by
  intro T hT X
  rcases hr T hT X with ⟨v, st₀, t, T', L, h0, X', hL, e1, e2, ⟨⟨r, u, hv, hp, hb⟩, hF⟩, st⟩ | ⟨q, st₀, t, T', L, E, ce, h0, X', hL, e1, e2, ⟨u, hp, hb, hF⟩, hce, hcv, hcl, st⟩
  · cases hv
    obtain ⟨k1, k2, k3⟩ := vx_keep h0 e1 hS hA hf hL hF
    obtain ⟨t2, a1, b1⟩ := kk r u t T'.heap (locs ++ L) e1.symm (by rw [← e2]; exact X'.warmed.alike) hp hb k1 k2 k3 T' rfl X'
    exact ⟨t2, st t2 a1, b1⟩
  · obtain ⟨k1, k2, k3⟩ := vx_keep h0 e1 hS hAX hf hL hF
    obtain ⟨t2, a1, b1⟩ := kx E ce q u t T'.heap (locs ++ L) e1.symm (by rw [← e2]; exact X'.warmed.alike) hp hb k1 k2 k3 (by rw [e1]; exact hce) hcv hcl T' rfl X'
    exact ⟨t2, st.trans a1, b1⟩
theorem vx_calll {S SX : Type} {post : Int64 → S → Prop} {px : SX → Prop} {B : S → State → Prop} {BX : String → SX → State → Prop} {AX : Nat → Prop} (hr : vx_Run p l e R s m args below meth c H locs cells slots mc ms (F0 m pc ls st0) rest (va_Ql post B A1 a) (vx_X px BX AX) free) (hS : va_S A0 H0 H locs) (hA : ∀ q, q < H.size → A1 q → A0 q) (hf : ∀ q, free q → A0 q) (hAX : ∀ q, q < H.size → AX q → A0 q)
    (kx : ∀ (E : String) (ce : Cell) (q9 : Addr) (u : SX) (t : State) (H1 : Heap) (locs1 : List Loc), t.heap = H1 → s.vm.Alike t.vm → px u → BX E u t → H.size ≤ H1.size → (∀ q : Nat, q < H.size → ¬ AX q → H1[q]? = H[q]?) → va_S A0 H0 H1 locs1 → H1[q9]? = some ce → ce.vm = .none → s.vm.findClass E = some ce.cls → vx_W p l e R s m args below meth c H1 locs1 (cells + mc) (slots + ms) Q (F0 m pc ls rest) q9)
    (kk : ∀ (r : Int64) (u : S) (t : State) (H1 : Heap) (locs1 : List Loc), t.heap = H1 → s.vm.Alike t.vm → post r u → B u t → H.size ≤ H1.size → (∀ q : Nat, q < H.size → ¬ A1 q → H1[q]? = H[q]?) → va_S A0 H0 H1 locs1 → W p l e R s m args below meth c H1 locs1 (cells + mc) (slots + ms) Q (F0 m (pc + 3) ls (.long r :: rest))) : W p l e R s m args below meth c H locs cells slots Q (F0 m pc ls st0) := by
  intro T hT X
  rcases hr T hT X with ⟨v, st₀, t, T', L, h0, X', hL, e1, e2, ⟨⟨r, u, hv, hp, hb⟩, hF⟩, st⟩ | ⟨q, st₀, t, T', L, E, ce, h0, X', hL, e1, e2, ⟨u, hp, hb, hF⟩, hce, hcv, hcl, st⟩
  · cases hv
    obtain ⟨k1, k2, k3⟩ := vx_keep h0 e1 hS hA hf hL hF
    obtain ⟨t2, a1, b1⟩ := kk r u t T'.heap (locs ++ L) e1.symm (by rw [← e2]; exact X'.warmed.alike) hp hb k1 k2 k3 T' rfl X'
    exact ⟨t2, st t2 a1, b1⟩
  · obtain ⟨k1, k2, k3⟩ := vx_keep h0 e1 hS hAX hf hL hF
    obtain ⟨t2, a1, b1⟩ := kx E ce q u t T'.heap (locs ++ L) e1.symm (by rw [← e2]; exact X'.warmed.alike) hp hb k1 k2 k3 (by rw [e1]; exact hce) hcv hcl T' rfl X'
    exact ⟨t2, st.trans a1, b1⟩
theorem vx_callf {S SX : Type} {post : UInt32 → S → Prop} {px : SX → Prop} {B : S → State → Prop} {BX : String → SX → State → Prop} {AX : Nat → Prop} (hr : vx_Run p l e R s m args below meth c H locs cells slots mc ms (F0 m pc ls st0) rest (va_Qf post B A1 a) (vx_X px BX AX) free) (hS : va_S A0 H0 H locs) (hA : ∀ q, q < H.size → A1 q → A0 q) (hf : ∀ q, free q → A0 q) (hAX : ∀ q, q < H.size → AX q → A0 q)
    (kx : ∀ (E : String) (ce : Cell) (q9 : Addr) (u : SX) (t : State) (H1 : Heap) (locs1 : List Loc), t.heap = H1 → s.vm.Alike t.vm → px u → BX E u t → H.size ≤ H1.size → (∀ q : Nat, q < H.size → ¬ AX q → H1[q]? = H[q]?) → va_S A0 H0 H1 locs1 → H1[q9]? = some ce → ce.vm = .none → s.vm.findClass E = some ce.cls → vx_W p l e R s m args below meth c H1 locs1 (cells + mc) (slots + ms) Q (F0 m pc ls rest) q9)
    (kk : ∀ (r : UInt32) (u : S) (t : State) (H1 : Heap) (locs1 : List Loc), t.heap = H1 → s.vm.Alike t.vm → post r u → B u t → H.size ≤ H1.size → (∀ q : Nat, q < H.size → ¬ A1 q → H1[q]? = H[q]?) → va_S A0 H0 H1 locs1 → W p l e R s m args below meth c H1 locs1 (cells + mc) (slots + ms) Q (F0 m (pc + 3) ls (.float r :: rest))) : W p l e R s m args below meth c H locs cells slots Q (F0 m pc ls st0) := by
  intro T hT X
  rcases hr T hT X with ⟨v, st₀, t, T', L, h0, X', hL, e1, e2, ⟨⟨r, u, hv, hp, hb⟩, hF⟩, st⟩ | ⟨q, st₀, t, T', L, E, ce, h0, X', hL, e1, e2, ⟨u, hp, hb, hF⟩, hce, hcv, hcl, st⟩
  · cases hv
    obtain ⟨k1, k2, k3⟩ := vx_keep h0 e1 hS hA hf hL hF
    obtain ⟨t2, a1, b1⟩ := kk r u t T'.heap (locs ++ L) e1.symm (by rw [← e2]; exact X'.warmed.alike) hp hb k1 k2 k3 T' rfl X'
    exact ⟨t2, st t2 a1, b1⟩
  · obtain ⟨k1, k2, k3⟩ := vx_keep h0 e1 hS hAX hf hL hF
    obtain ⟨t2, a1, b1⟩ := kx E ce q u t T'.heap (locs ++ L) e1.symm (by rw [← e2]; exact X'.warmed.alike) hp hb k1 k2 k3 (by rw [e1]; exact hce) hcv hcl T' rfl X'
    exact ⟨t2, st.trans a1, b1⟩
theorem vx_calld {S SX : Type} {post : UInt64 → S → Prop} {px : SX → Prop} {B : S → State → Prop} {BX : String → SX → State → Prop} {AX : Nat → Prop} (hr : vx_Run p l e R s m args below meth c H locs cells slots mc ms (F0 m pc ls st0) rest (va_Qd post B A1 a) (vx_X px BX AX) free) (hS : va_S A0 H0 H locs) (hA : ∀ q, q < H.size → A1 q → A0 q) (hf : ∀ q, free q → A0 q) (hAX : ∀ q, q < H.size → AX q → A0 q)
    (kx : ∀ (E : String) (ce : Cell) (q9 : Addr) (u : SX) (t : State) (H1 : Heap) (locs1 : List Loc), t.heap = H1 → s.vm.Alike t.vm → px u → BX E u t → H.size ≤ H1.size → (∀ q : Nat, q < H.size → ¬ AX q → H1[q]? = H[q]?) → va_S A0 H0 H1 locs1 → H1[q9]? = some ce → ce.vm = .none → s.vm.findClass E = some ce.cls → vx_W p l e R s m args below meth c H1 locs1 (cells + mc) (slots + ms) Q (F0 m pc ls rest) q9)
    (kk : ∀ (r : UInt64) (u : S) (t : State) (H1 : Heap) (locs1 : List Loc), t.heap = H1 → s.vm.Alike t.vm → post r u → B u t → H.size ≤ H1.size → (∀ q : Nat, q < H.size → ¬ A1 q → H1[q]? = H[q]?) → va_S A0 H0 H1 locs1 → W p l e R s m args below meth c H1 locs1 (cells + mc) (slots + ms) Q (F0 m (pc + 3) ls (.double r :: rest))) : W p l e R s m args below meth c H locs cells slots Q (F0 m pc ls st0) := by
  intro T hT X
  rcases hr T hT X with ⟨v, st₀, t, T', L, h0, X', hL, e1, e2, ⟨⟨r, u, hv, hp, hb⟩, hF⟩, st⟩ | ⟨q, st₀, t, T', L, E, ce, h0, X', hL, e1, e2, ⟨u, hp, hb, hF⟩, hce, hcv, hcl, st⟩
  · cases hv
    obtain ⟨k1, k2, k3⟩ := vx_keep h0 e1 hS hA hf hL hF
    obtain ⟨t2, a1, b1⟩ := kk r u t T'.heap (locs ++ L) e1.symm (by rw [← e2]; exact X'.warmed.alike) hp hb k1 k2 k3 T' rfl X'
    exact ⟨t2, st t2 a1, b1⟩
  · obtain ⟨k1, k2, k3⟩ := vx_keep h0 e1 hS hAX hf hL hF
    obtain ⟨t2, a1, b1⟩ := kx E ce q u t T'.heap (locs ++ L) e1.symm (by rw [← e2]; exact X'.warmed.alike) hp hb k1 k2 k3 (by rw [e1]; exact hce) hcv hcl T' rfl X'
    exact ⟨t2, st.trans a1, b1⟩
theorem vx_callv {S SX : Type} {post : S → Prop} {px : SX → Prop} {B : S → State → Prop} {BX : String → SX → State → Prop} {AX : Nat → Prop} (hr : vx_Run p l e R s m args below meth c H locs cells slots mc ms (F0 m pc ls st0) rest (va_Qv post B A1 a) (vx_X px BX AX) free) (hS : va_S A0 H0 H locs) (hA : ∀ q, q < H.size → A1 q → A0 q) (hf : ∀ q, free q → A0 q) (hAX : ∀ q, q < H.size → AX q → A0 q)
    (kx : ∀ (E : String) (ce : Cell) (q9 : Addr) (u : SX) (t : State) (H1 : Heap) (locs1 : List Loc), t.heap = H1 → s.vm.Alike t.vm → px u → BX E u t → H.size ≤ H1.size → (∀ q : Nat, q < H.size → ¬ AX q → H1[q]? = H[q]?) → va_S A0 H0 H1 locs1 → H1[q9]? = some ce → ce.vm = .none → s.vm.findClass E = some ce.cls → vx_W p l e R s m args below meth c H1 locs1 (cells + mc) (slots + ms) Q (F0 m pc ls rest) q9)
    (kk : ∀ (u : S) (t : State) (H1 : Heap) (locs1 : List Loc), t.heap = H1 → s.vm.Alike t.vm → post u → B u t → H.size ≤ H1.size → (∀ q : Nat, q < H.size → ¬ A1 q → H1[q]? = H[q]?) → va_S A0 H0 H1 locs1 → W p l e R s m args below meth c H1 locs1 (cells + mc) (slots + ms) Q (F0 m (pc + 3) ls (rest))) : W p l e R s m args below meth c H locs cells slots Q (F0 m pc ls st0) := by
  intro T hT X
  rcases hr T hT X with ⟨v, st₀, t, T', L, h0, X', hL, e1, e2, ⟨⟨u, hv, hp, hb⟩, hF⟩, st⟩ | ⟨q, st₀, t, T', L, E, ce, h0, X', hL, e1, e2, ⟨u, hp, hb, hF⟩, hce, hcv, hcl, st⟩
  · cases hv
    obtain ⟨k1, k2, k3⟩ := vx_keep h0 e1 hS hA hf hL hF
    obtain ⟨t2, a1, b1⟩ := kk u t T'.heap (locs ++ L) e1.symm (by rw [← e2]; exact X'.warmed.alike) hp hb k1 k2 k3 T' rfl X'
    exact ⟨t2, st t2 a1, b1⟩
  · obtain ⟨k1, k2, k3⟩ := vx_keep h0 e1 hS hAX hf hL hF
    obtain ⟨t2, a1, b1⟩ := kx E ce q u t T'.heap (locs ++ L) e1.symm (by rw [← e2]; exact X'.warmed.alike) hp hb k1 k2 k3 (by rw [e1]; exact hce) hcv hcl T' rfl X'
    exact ⟨t2, st.trans a1, b1⟩
/-- caught by the row x of this method's table; the rows ahead don't take it -/
theorem vx_catch {own name : String} {E : String} {ce : Cell} {q : Addr} (hown : s.vm.findClass own = some m.cls) (pre : List ExceptionTableEntry) (x : ExceptionTableEntry) (suf : List ExceptionTableEntry) (hsplit : c.exceptionTable.toList = pre ++ x :: suf)
    (hpass : ∀ z ∈ pre, covers z pc = false ∨ (z.catchType ≠ 0 ∧ ∃ nm : String, (Cond.classLink own z.catchType nm).before args s = true ∧ va_Nc E nm s)) (hx : covers x pc = true) (h0 : x.catchType ≠ 0)
    (hlink : (Cond.classLink own x.catchType name).before args s = true) (hcast : (Cond.castable E name).before args s = true) (hcell : H[q]? = some ce) (hv : ce.vm = .none) (hcl : s.vm.findClass E = some ce.cls)
    (kk : W p l e R s m args below meth c H locs cells slots Q (F0 m x.handlerPc ls [.ref q])) : vx_W p l e R s m args below meth c H locs cells slots Q (F0 m pc ls rest) q := by
  intro T hT X
  have hpl : e.platform.magicAccessors = ({} : Platform).magicAccessors := by rw [X.admits.platform]
  obtain ⟨c3, c4, hc3, hc4, hasg⟩ := Cond.castable_spec hcast
  cases Option.some.inj (hc3.symm.trans hcl)
  obtain ⟨c5, hc5, hcl5⟩ := Cond.classLink_spec hown hlink e.platform hpl
  cases Option.some.inj (hc4.symm.trans hc5)
  obtain ⟨vm', X', st⟩ := Jvm.Stand.thenCaughtThrough X q (g := F0 m pc ls rest) rfl (Steps.refl _) (by rw [hT]; exact hcell) (by rw [hv]; rfl) (by obtain ⟨k9, h9, -⟩ := Vm.findClass_spec hcl; exact ⟨k9, h9⟩) pre x suf hsplit
    (fun z hz => by
      rcases hpass z hz with h | ⟨hz0, nm, hl1, hn1⟩
      · exact Or.inl h
      · obtain ⟨c6, hc6, hcl6⟩ := Cond.classLink_spec hown hl1 e.platform hpl
        obtain ⟨a8, b8, h1, h2, h3⟩ := hn1
        cases Option.some.inj (h1.symm.trans hcl)
        cases Option.some.inj (h2.symm.trans hc6)
        exact Or.inr ⟨hz0, _, hcl6, h3⟩) hx (Or.inr ⟨h0, c4, hcl5, hasg⟩)
  obtain ⟨t, a1, b1⟩ := kk (T.setVm vm') hT X'
  exact ⟨t, st.trans a1, b1⟩
end Rows
section Ends
variable {p : Program} {l : Launch} {e : Env} {R : Room} {s : State} {m : MethodId} {args : Array Value} {below : List Frame} {meth : Method} {c : Code} {H : Heap} {locs : List Loc} {cells slots : Nat} {Q : State → Prop}
variable {mc ms : Nat} {free : Addr → Prop} {A0 A1 : Nat → Prop} {H0 : Heap} {a : Array Value} {ls : Array Slot} {st0 rest : List Value}
variable {Qc : Array Value → State → Outcome → State → Prop} {XC : String → State → State → Prop}
/-- what a body that may throw owes at its end -/
def vx_MQ (below : List Frame) (Qc : Array Value → State → Outcome → State → Prop) (XC : String → State → State → Prop) (a : Array Value) (s : State) (mc ms : Nat) (free : Addr → Prop) : State → Prop := fun t =>
  ∃ o, t.status = .running ∧ Ended t below o ∧ vx_Q Qc XC mc ms free a s o t
theorem vx_ret {g : JFrame} {mc ms : Nat} (k : W p l e R s m args below meth c H locs cells slots (MQ below Qc args s mc ms free) g) : W p l e R s m args below meth c H locs cells slots (vx_MQ below Qc XC args s mc ms free) g := by
  intro T hT X
  obtain ⟨t, a1, o, b1, b2, b3, b4⟩ := k T hT X
  exact ⟨t, a1, o, b1, b2, Or.inl ⟨b3, b4⟩⟩
/-- not caught here: it goes on to the caller -/
theorem vx_widen {g : JFrame} {q : Addr} {k n : Nat} (h1 : cells ≤ k) (h2 : slots ≤ n) (kk : vx_W p l e R s m args below meth c H locs k n Q g q) : vx_W p l e R s m args below meth c H locs cells slots Q g q := fun T hT X => kk T hT (stand_widen X h1 h2)
theorem vx_out {pc : Nat} {E : String} {ce : Cell} {q : Addr} {mc ms : Nat} (hout : ∀ x ∈ c.exceptionTable.toList, covers x pc = false) (hlocks : meth.locks = false) (hcell : H[q]? = some ce) (hv : ce.vm = .none) (hcl : s.vm.findClass E = some ce.cls)
    (hx : ∀ t : State, t.heap = H → s.vm.Alike t.vm → XC E s t) (hf : ∀ z ∈ locs, free z.base) (hc : cells ≤ mc) (hs : slots ≤ ms) :
    vx_W p l e R s m args below meth c H locs cells slots (vx_MQ below Qc XC args s mc ms free) (F0 m pc ls rest) q := by
  intro T hT X
  obtain ⟨st1, hrun, hend, hW, hsm⟩ := X.leaveThrown q (g := F0 m pc ls rest) rfl rfl rfl hout hlocks
  have hcell9 : (T.setFrames (.throwing q :: below)).heap[q]? = some ce := by
    show T.heap[q]? = some ce
    rw [hT]; exact hcell
  exact ⟨_, st1, .threw q, hrun, hend, Or.inr ⟨q, rfl, E, ce, locs, hx _ hT hW.alike, hcell9, hv, hcl, hW, hsm.mono hc hs, hf⟩⟩
theorem vx_frame {U : State} {k n : Nat} (h : s.sameButNew ({ U with vm := s.vm } : State) locs k n) : s.heap.size ≤ U.heap.size ∧ ∀ q : Nat, q < s.heap.size → (∀ z ∈ locs, z.base ≠ q) → U.heap[q]? = s.heap[q]? := by
  obtain ⟨-, h2, -, -, -, h6⟩ := h
  refine ⟨h2, fun q hq hz => ?_⟩
  obtain ⟨c9, e1, e2, e3, e4⟩ := h6 q _ (Array.getElem?_eq_getElem hq)
  have hs : c9.slots = (s.heap[q]).slots := Array.ext_getElem? fun i => e4 i fun hm => hz _ hm rfl
  have h9 : c9 = s.heap[q] := by
    rw [hs] at e2
    exact e2
  have e5 : U.heap[q]? = some c9 := e1
  rw [e5, h9, Array.getElem?_eq_getElem hq]
/-- the words of a throw but the four that speak of the heap -/
def vx_no (w : Cond) : Bool := decide (w ≠ .isRef (.static Bundle.tN "UNASSIGNED_STACK" Bundle.steD)) && decide (w ≠ .isRef (.static Bundle.tN "SUPPRESSED_SENTINEL" Bundle.listD)) && decide (w ≠ .laysStatic Bundle.tN "UNASSIGNED_STACK" Bundle.steD) && decide (w ≠ .laysStatic Bundle.tN "SUPPRESSED_SENTINEL" Bundle.listD)
def vx_at0 (own : String) (ic : Nat) (X : String) (names : List String) : List Cond := (Bundle.ownAtoms0 own ic X names).filter vx_no
def vx_atS (own : String) (ic : Nat) (X : String) (names : List String) : List Cond := (Bundle.ownAtoms own ic X names).filter vx_no
/-- a word that the tables alone decide, or a good one -/
def vx_ot (w : Cond) : Bool := w.onTables || goodWord w
theorem vx_ot_at {args a' : Array Value} {s U : State} {w : Cond} (hW : s.WarmedH U.vm) (hvm : s.vm = U.vm) (hg : vx_ot w = true) (h : w.before args s = true) : w.before a' U = true := by
  simp only [vx_ot, Bool.or_eq_true] at hg
  rcases hg with hg | hg
  · exact va_tabs hg hvm h
  · exact word_at hW (good_of_word hg) h
/-- a list's words: the good ones out of the method's own list, the others by premises of their own -/
theorem vx_hat {args : Array Value} {s : State} {L B : List Cond} (h1 : ∀ w ∈ L.filter goodWord, w.before args s = true) (h2 : ∀ w ∈ L.filter (fun w => !goodWord w), w ∈ B) (h3 : ∀ w ∈ B, w.before args s = true) : ∀ w ∈ L, w.before args s = true := by
  intro w hw
  by_cases g : goodWord w = true
  · exact h1 w (List.mem_filter.mpr ⟨hw, g⟩)
  · refine h3 w (h2 w (List.mem_filter.mpr ⟨hw, ?_⟩))
    show (!goodWord w) = true
    cases hgw : goodWord w
    · rfl
    · exact absurd hgw g
theorem vx_c {args : Array Value} {s : State} {w : Cond} {B : List Cond} (h : w.before args s = true) (t : ∀ w ∈ B, w.before args s = true) : ∀ w' ∈ w :: B, w'.before args s = true := fun w' h' => (List.mem_cons.mp h').elim (fun e => by rw [e]; exact h) (t w')
theorem vx_n {args : Array Value} {s : State} : ∀ w ∈ ([] : List Cond), w.before args s = true := fun _ h => nomatch h
theorem vx_own {args : Array Value} {s : State} {L : List Cond} (h1 : ∀ w ∈ L.filter vx_no, w.before args s = true)
    (hU : (Cond.isRef (.static Bundle.tN "UNASSIGNED_STACK" Bundle.steD)).before args s = true) (hN : (Cond.isRef (.static Bundle.tN "SUPPRESSED_SENTINEL" Bundle.listD)).before args s = true)
    (lU : (Cond.laysStatic Bundle.tN "UNASSIGNED_STACK" Bundle.steD).before args s = true) (lN : (Cond.laysStatic Bundle.tN "SUPPRESSED_SENTINEL" Bundle.listD).before args s = true) : ∀ w ∈ L, w.before args s = true := by
  intro w hw
  by_cases e1 : w = .isRef (.static Bundle.tN "UNASSIGNED_STACK" Bundle.steD)
  · rw [e1]; exact hU
  · by_cases e2 : w = .isRef (.static Bundle.tN "SUPPRESSED_SENTINEL" Bundle.listD)
    · rw [e2]; exact hN
    · by_cases e3 : w = .laysStatic Bundle.tN "UNASSIGNED_STACK" Bundle.steD
      · rw [e3]; exact lU
      · by_cases e4 : w = .laysStatic Bundle.tN "SUPPRESSED_SENTINEL" Bundle.listD
        · rw [e4]; exact lN
        · exact h1 w (List.mem_filter.mpr ⟨hw, by unfold vx_no; rw [decide_eq_true e1, decide_eq_true e2, decide_eq_true e3, decide_eq_true e4]; rfl⟩)
/-- where a static field lies, its class's statics cell in H -/
def vx_L (C n d : String) (A : Nat → Prop) (U : State) (H : Heap) : Prop := ∃ (c : ClassId) (k : Class) (i : Nat) (f : Field) (a : Nat) (cell : Cell), U.vm.findClass C = some c ∧ U.fieldFound? C n d = some (c, k, i, f) ∧ f.isStatic = true ∧ k.statics = some a ∧ H[a]? = some cell ∧ cell.vm.isStatics = true ∧ cell.cls = c ∧ f.slot < cell.slots.size ∧ k.staticTypes[f.slot]? = some f.type ∧ ¬ A a
theorem vx_L.moved {C n d : String} {A : Nat → Prop} {u U : State} {H : Heap} (hvm : u.vm.Alike U.vm) (h : vx_L C n d A u H) : vx_L C n d A U H := by
  obtain ⟨c, k, i, f, a, cell, h1, h2, h3, h4, h5, h6, h7, h8, h9, h10⟩ := h
  obtain ⟨k', hi', he⟩ := State.fieldFound?_setVm hvm h2
  exact ⟨c, k', i, f, a, cell, by rw [hvm.findClass]; exact h1, hi', h3, by rw [he]; exact h4, h5, h6, h7, h8, by rw [he]; exact h9, h10⟩
theorem vx_L.kept {C n d : String} {A : Nat → Prop} {U : State} {H H1 : Heap} (h : vx_L C n d A U H) (hq : ∀ a : Nat, a < H.size → ¬ A a → H1[a]? = H[a]?) : vx_L C n d A U H1 := by
  obtain ⟨c, k, i, f, a, cell, h1, h2, h3, h4, h5, h6, h7, h8, h9, h10⟩ := h
  exact ⟨c, k, i, f, a, cell, h1, h2, h3, h4, by rw [hq a (Array.getElem?_eq_some_iff.mp h5).1 h10]; exact h5, h6, h7, h8, h9, h10⟩
theorem vx_L.narrow {C n d : String} {A B : Nat → Prop} {U : State} {H : Heap} (h : vx_L C n d A U H) (hAB : ∀ q, B q → A q) : vx_L C n d B U H := by
  obtain ⟨c, k, i, f, a, cell, h1, h2, h3, h4, h5, h6, h7, h8, h9, h10⟩ := h
  exact ⟨c, k, i, f, a, cell, h1, h2, h3, h4, h5, h6, h7, h8, h9, fun z => h10 (hAB _ z)⟩
theorem vx_L.word {C n d : String} {A : Nat → Prop} {s : State} {args : Array Value} (h : vx_L C n d A s s.heap) : (Cond.laysStatic C n d).before args s = true := by
  obtain ⟨c, k, i, f, a, cell, h1, h2, h3, h4, h5, h6, h7, h8, h9, -⟩ := h
  show (Cond.laysStatic C n d).holds args s none s [] = true
  exact Cond.laysStatic_of h1 h2 h3 h4 h5 h6 h7 h8 h9
/-- .. and what it holds: null or some reference -/
def vx_Zq (C n d : String) (A : Nat → Prop) (U : State) (H : Heap) : Prop := va_Zq C n d A U H ∧ vx_L C n d A U H
theorem vx_Zq.moved {C n d : String} {A : Nat → Prop} {u U : State} {H : Heap} (hvm : u.vm.Alike U.vm) (h : vx_Zq C n d A u H) : vx_Zq C n d A U H := ⟨va_Zq.moved hvm h.1, vx_L.moved hvm h.2⟩
theorem vx_Zq.kept {C n d : String} {A : Nat → Prop} {U : State} {H H1 : Heap} (h : vx_Zq C n d A U H) (hq : ∀ a : Nat, a < H.size → ¬ A a → H1[a]? = H[a]?) : vx_Zq C n d A U H1 := ⟨va_Zq.kept h.1 hq, vx_L.kept h.2 hq⟩
theorem vx_Zq.narrow {C n d : String} {A B : Nat → Prop} {U : State} {H : Heap} (h : vx_Zq C n d A U H) (hAB : ∀ q, B q → A q) : vx_Zq C n d B U H := ⟨va_Zq.narrow h.1 hAB, vx_L.narrow h.2 hAB⟩
theorem vx_Zqof {args : Array Value} {s : State} {C n d : String} {A : Nat → Prop} (hl : (Cond.laysStatic C n d).before args s = true) (hini : (Cond.initialized C).before args s = true) (h : (Cond.isRef (.static C n d)).before args s = true) (hA : ∀ a : Nat, a < s.heap.size → ¬ A a) : vx_Zq C n d A s s.heap := by
  refine ⟨va_Zqof hl hini h hA, ?_⟩
  obtain ⟨c, k, i, f, a, cell, h1, h2, h3, h4, h5, h6, h7, h8, h9⟩ := Cond.laysStatic_spec hl
  exact ⟨c, k, i, f, a, cell, h1, h2, h3, h4, h5, h6, h7, h8, h9, hA a (Array.getElem?_eq_some_iff.mp h5).1⟩
theorem vx_isRef {C n d : String} {v : Value} {A : Nat → Prop} {s : State} {args : Array Value} (h : va_Z C n d v A s s.heap) (hv : v.isRef = true) : (Cond.isRef (.static C n d)).before args s = true := by
  obtain ⟨cf, kf, fi, f, a, cell, h1, h2, h3, h4, h5, h6, h7, -⟩ := h
  have he : (Term.static C n d).eval args s none [] s = some v := by
    simp [Term.eval, State.fieldNamed?, h1, h2, h4, h5, h6, h7]
  simp only [Cond.before, Cond.holds, Cond.value, he]
  cases v <;> simp_all [Value.isRef]
theorem vx_isRefq {C n d : String} {A : Nat → Prop} {s : State} {args : Array Value} (h : va_Zq C n d A s s.heap) : (Cond.isRef (.static C n d)).before args s = true := by
  rcases h with h | ⟨t, h⟩
  · exact vx_isRef h rfl
  · exact vx_isRef h rfl
/-- the same frame, seen from here: as if the method were called anew in this heap -/
theorem vx_rebase {T : State} (X : Stand p l e R s m args below meth c T locs cells slots) {R' : Room} (hf : R'.frames ≤ R.frames) (hl : R'.locals ≤ R.locals) (hc : cells + R'.cells ≤ R.cells) (hs : slots + R'.slots ≤ R.slots) :
    Stand p l e R' ((T.setVm s.vm).setFrames (.invoking m args :: below)) m args below meth c T [] 0 0 := by
  have htop : (T.setVm s.vm).topJava?.isSome := X.here.top
  have hF : ((T.setVm s.vm).setFrames (.invoking m args :: below)).frames = .invoking m args :: below := State.frames_setFrames _ (State.cur_lt_of_top htop)
  obtain ⟨g₀, hg0⟩ := Option.isSome_iff_exists.mp htop
  obtain ⟨r, hr⟩ := State.topJava?_eq_some.mp hg0
  have hl9 : e.platform.stackLimits (T.setVm s.vm).me = e.platform.stackLimits s.me := X.limits
  have hb9 : (T.setVm s.vm).me.stackBytes = s.me.stackBytes := X.bytes
  refine ⟨X.admits, X.cas, X.clock, hF, ?_, X.hears, X.method, X.code, X.here, X.tail, X.warmed, ?_, ?_, ?_⟩
  · have h := X.room
    have hU : ((T.setVm s.vm).setFrames (.invoking m args :: below)).localsInUse = s.localsInUse := by
      rw [State.localsInUse_invoking hF (meth := meth) (c := c) X.method X.code, State.localsInUse_invoking X.frames X.method X.code]
    simp only [State.hasRoom, Bool.and_eq_true, decide_eq_true_eq] at h ⊢
    obtain ⟨⟨⟨⟨h1, h2, h3, h4, h5, h6⟩, h7⟩, h8⟩, h9⟩ := h
    rw [X.frames, List.length_cons] at h2 h3
    have q1 := X.heapSize
    have q2 := X.used
    simp only [hF, hU, List.length_cons, State.stackLimits_setFrames, State.stackBytes_setFrames, hl9, hb9]
    refine ⟨⟨⟨⟨by omega, by omega, by omega, by omega, by omega, h6⟩, ?_⟩, ?_⟩, X.book⟩
    · show T.heap.size + R'.cells ≤ e.platform.maxCells
      omega
    · show T.slotsUsed + R'.slots ≤ e.platform.maxSlots
      omega
  · rw [State.stackLimits_setFrames]; rfl
  · rw [State.stackBytes_setFrames]; rfl
  · refine ⟨?_, Nat.le_refl _, Nat.le_refl _, ?_, ?_, fun a c9 h9 => ⟨c9, h9, rfl, rfl, fun _ _ => rfl⟩⟩
    · obtain ⟨t, ht, -⟩ := State.frames_cons hr
      show T.setVm s.vm = { ((T.setVm s.vm).setFrames (.invoking m args :: below)).setFrames (T.setVm s.vm).frames with heap := T.heap, slotsUsed := T.slotsUsed }
      rw [State.setFrames_setFrames, State.setFrames_self ht]
      rfl
    · show T.slotsUsed = T.slotsUsed + ((T.heap.toList.drop T.heap.size).map (·.slots.size)).sum
      rw [List.drop_eq_nil_of_le (Nat.le_of_eq Array.length_toList)]
      rfl
    · show ((T.heap.toList.drop T.heap.size).map (·.slots.size)).sum ≤ 0
      rw [List.drop_eq_nil_of_le (Nat.le_of_eq Array.length_toList)]
      exact Nat.le_refl _
/-- 'throw new E()': new; dup; invokespecial; athrow -/
theorem vx_throw0 {cc : ByteArray} {pc : Nat} (hexec : p.tables.exec = Jvm.exec) (hb : c.code = cc) (hl : l.stackTraces = false) {own cls : String} {names : List String} {ik ic mc ms : Nat} {A : Nat → Prop}
    (hown : s.vm.findClass own = some m.cls) (hcls : Bundle.fit cls = true) (hnames : ∀ n ∈ names, Bundle.fit n = true)
    (hk : (Cond.classLink own ik cls).before args s = true) (hini : (Cond.initialized cls).before args s = true) (hat : ∀ w ∈ vx_at0 own ic cls names, w.before args s = true)
    (hgood : ∀ w ∈ Cond.classLink own ik cls :: Cond.initialized cls :: vx_at0 own ic cls names, vx_ot w = true)
    (hU : vx_Zq Bundle.tN "UNASSIGNED_STACK" Bundle.steD A s s.heap) (hN : vx_Zq Bundle.tN "SUPPRESSED_SENTINEL" Bundle.listD A s s.heap) (hS : va_S A s.heap H locs) (hsize : ls.size = c.maxLocals)
    (d0 : decode cc pc = .ok (.new ik, 3)) (d3 : decode cc (pc + 3) = .ok (.dup, 1)) (d4 : decode cc (pc + 4) = .ok (.invokespecial ic, 3)) (d7 : decode cc (pc + 7) = .ok (.athrow, 1))
    (hout : ∀ x ∈ c.exceptionTable.toList, covers x (pc + 7) = false)
    (hRframes : names.length + 3 < R.frames) (hRlocals : (rest.map fun v => v.category).sum + (13 * (names.length + 1) + 42) ≤ R.locals) (hRcells : cells + 1 ≤ R.cells) (hRslots : slots + 6 ≤ R.slots) (hlocks : meth.locks = false)
    (hx : ∀ t : State, s.vm.Alike t.vm → H.size ≤ t.heap.size → (∀ q : Nat, q < H.size → t.heap[q]? = H[q]?) → XC cls s t)
    (hf : ∀ z ∈ locs, free z.base) (hc : cells + 1 ≤ mc) (hs : slots + 6 ≤ ms) :
    W p l e R s m args below meth c H locs cells slots (vx_MQ below Qc XC args s mc ms free) (F0 m pc ls rest) := by
  intro T hT X
  have htr : e.platform.stackTraces = false := (show e.platform.stackTraces = l.stackTraces by rw [X.admits.platform]).trans hl
  have Y := vx_rebase X (R' := { frames := R.frames, locals := R.locals, cells := 1, slots := 6 }) (Nat.le_refl _) (Nat.le_refl _) hRcells hRslots
  obtain ⟨s', hA⟩ : ∃ z, z = (T.setVm s.vm).setFrames (.invoking m args :: below) := ⟨_, rfl⟩
  rw [← hA] at Y
  have hvm : s'.vm = s.vm := by rw [hA]; rfl
  have hhp : s'.heap = H := by rw [hA]; exact hT
  have hW0 : s.WarmedH s'.vm := by rw [hvm]; exact State.WarmedH.refl s
  have hat' : ∀ w ∈ vx_at0 own ic cls names, w.before args s' = true := fun w hw => vx_ot_at hW0 hvm.symm (hgood w (List.mem_cons_of_mem _ (List.mem_cons_of_mem _ hw))) (hat w hw)
  have hk' : (Cond.classLink own ik cls).before args s' = true := vx_ot_at hW0 hvm.symm (hgood _ List.mem_cons_self) hk
  have hini' : (Cond.initialized cls).before args s' = true := vx_ot_at hW0 hvm.symm (hgood _ (List.mem_cons_of_mem _ List.mem_cons_self)) hini
  have hU' : vx_Zq Bundle.tN "UNASSIGNED_STACK" Bundle.steD A s' s'.heap := by rw [hhp]; exact vx_Zq.moved hW0.alike (hU.kept hS.2.1)
  have hN' : vx_Zq Bundle.tN "SUPPRESSED_SENTINEL" Bundle.listD A s' s'.heap := by rw [hhp]; exact vx_Zq.moved hW0.alike (hN.kept hS.2.1)
  have h : ∀ w ∈ Bundle.ownAtoms0 own ic cls names, w.before args s' = true := vx_own hat' (vx_isRefq hU'.1) (vx_isRefq hN'.1) hU'.2.word hN'.2.word
  have hown' : s'.vm.findClass own = some m.cls := by rw [hvm]; exact hown
  have hins : (Cond.instantiable cls 6).before args s' = true := h _ (by simp [Bundle.ownAtoms0])
  obtain ⟨vm₁, cX, kX, hfX, hkX, -, -, X₁, st1⟩ := Y.newCold hexec (own := own) (C := cls) (index := ik) (n := 6) hown' hk' hins hini'
    (g := F0 m pc ls rest) rfl (by rw [hb]; exact d0) (Nat.le_refl _) (Nat.le_refl _)
  generalize hT1 : (T.setVm vm₁).pushCell { cls := cX, slots := kX.instanceTypes.map defaultValue, vm := .none } = T1 at X₁ st1
  have hcat : (Value.ref T.heap.size).category = 1 := rfl
  have hcellA : T1.heap[T.heap.size]? = some (freshCell cX kX) := by rw [← hT1]; exact State.heap_pushCell_size _ _
  have d3' : decode c.code (pc + 3) = .ok (.dup, 1) := by rw [hb]; exact d3
  obtain ⟨U, hsteps, hrun, hend, hW, hsame, ce, hce, hO⟩ := X₁.ctorThrow0 hexec htr (own := own) (cls := cls) (names := names) (ic := ic) hown' hcls hnames h (fun x hx => nomatch hx) hfX hkX hcellA (by rw [hhp, hT]; exact Nat.le_refl _)
    (g := { method := m, pc := pc + 4, locals := ls, stack := .ref T.heap.size :: .ref T.heap.size :: rest, locked := none }) rfl hsize rfl rfl (rest := rest) rfl
    (by rw [hb]; exact d4) (by rw [hb]; exact d7) hout hRframes (by simp only [List.map_cons, List.sum_cons, hcat]; omega) hlocks
  obtain ⟨f1, f2⟩ := vx_frame hsame
  rw [hhp] at f1 f2
  have hWs : s.WarmedH U.vm := State.WarmedH.trans hW0 hW
  have hcl : s.vm.findClass cls = some ce.cls := by
    have h9 := hO.cls
    rw [hvm] at h9
    exact h9
  have hall : s.sameButNew ({ U with vm := s.vm } : State) locs mc ms := by
    subst hA
    obtain ⟨e1, e2⟩ := hsame
    rw [State.setFrames_setFrames] at e1
    have h2 : (T.setVm s.vm).sameButNew ({ U with vm := s.vm } : State) [] (0 + 1) (0 + 6) := ⟨e1, e2⟩
    have h3 := X.same.trans h2
    rw [List.append_nil] at h3
    exact h3.mono hc hs
  refine ⟨U, ?_, .threw T.heap.size, hrun, hend, Or.inr ⟨T.heap.size, rfl, cls, ce, locs, hx U hWs.alike f1 (fun q hq => f2 q hq (fun z hz => nomatch hz)), hce, hO.vm, hcl, hWs, hall, hf⟩⟩
  refine st1 _ ?_
  show Steps p.tables e below (T1.setTop { method := m, pc := pc + 3, locals := ls, stack := .ref T.heap.size :: rest, locked := none }) _
  jvm_step X₁.here [X₁.here.top, hexec, d3', Value.category]
  exact hsteps
/-- 'throw new E("text")': new; dup; ldc; invokespecial; athrow -/
theorem vx_throwS {cc : ByteArray} {pc : Nat} (hexec : p.tables.exec = Jvm.exec) (hb : c.code = cc) (hl : l.stackTraces = false) {own cls text : String} {names : List String} {ik is ic mc ms sa : Nat} {A : Nat → Prop}
    (hown : s.vm.findClass own = some m.cls) (hcls : Bundle.fit cls = true) (hnames : ∀ n ∈ names, Bundle.fit n = true)
    (hk : (Cond.classLink own ik cls).before args s = true) (hini : (Cond.initialized cls).before args s = true) (hstr : vk_R own is text sa s) (hat : ∀ w ∈ vx_atS own ic cls names, w.before args s = true)
    (hgood : ∀ w ∈ Cond.classLink own ik cls :: Cond.initialized cls :: vx_atS own ic cls names, vx_ot w = true)
    (hU : vx_Zq Bundle.tN "UNASSIGNED_STACK" Bundle.steD A s s.heap) (hN : vx_Zq Bundle.tN "SUPPRESSED_SENTINEL" Bundle.listD A s s.heap) (hS : va_S A s.heap H locs) (hsize : ls.size = c.maxLocals)
    (d0 : decode cc pc = .ok (.new ik, 3)) (d3 : decode cc (pc + 3) = .ok (.dup, 1)) (d4 : decode cc (pc + 4) = .ok (.ldc is, 2)) (d6 : decode cc (pc + 6) = .ok (.invokespecial ic, 3)) (d9 : decode cc (pc + 9) = .ok (.athrow, 1))
    (hout : ∀ x ∈ c.exceptionTable.toList, covers x (pc + 9) = false)
    (hRframes : names.length + 3 < R.frames) (hRlocals : (rest.map fun v => v.category).sum + (13 * (names.length + 1) + 43) ≤ R.locals) (hRcells : cells + 1 ≤ R.cells) (hRslots : slots + 6 ≤ R.slots) (hlocks : meth.locks = false)
    (hx : ∀ t : State, s.vm.Alike t.vm → H.size ≤ t.heap.size → (∀ q : Nat, q < H.size → t.heap[q]? = H[q]?) → XC cls s t)
    (hf : ∀ z ∈ locs, free z.base) (hc : cells + 1 ≤ mc) (hs : slots + 6 ≤ ms) :
    W p l e R s m args below meth c H locs cells slots (vx_MQ below Qc XC args s mc ms free) (F0 m pc ls rest) := by
  intro T hT X
  have htr : e.platform.stackTraces = false := (show e.platform.stackTraces = l.stackTraces by rw [X.admits.platform]).trans hl
  have Y := vx_rebase X (R' := { frames := R.frames, locals := R.locals, cells := 1, slots := 6 }) (Nat.le_refl _) (Nat.le_refl _) hRcells hRslots
  obtain ⟨s', hA⟩ : ∃ z, z = (T.setVm s.vm).setFrames (.invoking m args :: below) := ⟨_, rfl⟩
  rw [← hA] at Y
  have hvm : s'.vm = s.vm := by rw [hA]; rfl
  have hhp : s'.heap = H := by rw [hA]; exact hT
  have hW0 : s.WarmedH s'.vm := by rw [hvm]; exact State.WarmedH.refl s
  have hat' : ∀ w ∈ vx_atS own ic cls names, w.before args s' = true := fun w hw => vx_ot_at hW0 hvm.symm (hgood w (List.mem_cons_of_mem _ (List.mem_cons_of_mem _ hw))) (hat w hw)
  have hk' : (Cond.classLink own ik cls).before args s' = true := vx_ot_at hW0 hvm.symm (hgood _ List.mem_cons_self) hk
  have hini' : (Cond.initialized cls).before args s' = true := vx_ot_at hW0 hvm.symm (hgood _ (List.mem_cons_of_mem _ List.mem_cons_self)) hini
  have hU' : vx_Zq Bundle.tN "UNASSIGNED_STACK" Bundle.steD A s' s'.heap := by rw [hhp]; exact vx_Zq.moved hW0.alike (hU.kept hS.2.1)
  have hN' : vx_Zq Bundle.tN "SUPPRESSED_SENTINEL" Bundle.listD A s' s'.heap := by rw [hhp]; exact vx_Zq.moved hW0.alike (hN.kept hS.2.1)
  have h : ∀ w ∈ Bundle.ownAtoms own ic cls names, w.before args s' = true := vx_own hat' (vx_isRefq hU'.1) (vx_isRefq hN'.1) hU'.2.word hN'.2.word
  have hown' : s'.vm.findClass own = some m.cls := by rw [hvm]; exact hown
  have hins : (Cond.instantiable cls 6).before args s' = true := h _ (by simp [Bundle.ownAtoms])
  obtain ⟨vm₁, cX, kX, hfX, hkX, -, -, X₁, st1⟩ := Y.newCold hexec (own := own) (C := cls) (index := ik) (n := 6) hown' hk' hins hini'
    (g := F0 m pc ls rest) rfl (by rw [hb]; exact d0) (Nat.le_refl _) (Nat.le_refl _)
  generalize hT1 : (T.setVm vm₁).pushCell { cls := cX, slots := kX.instanceTypes.map defaultValue, vm := .none } = T1 at X₁ st1
  have hcat : (Value.ref T.heap.size).category = 1 := rfl
  have hcellA : T1.heap[T.heap.size]? = some (freshCell cX kX) := by rw [← hT1]; exact State.heap_pushCell_size _ _
  have d3' : decode c.code (pc + 3) = .ok (.dup, 1) := by rw [hb]; exact d3
  have d4' : decode c.code (pc + 4) = .ok (.ldc is, 2) := by rw [hb]; exact d4
  have hstr' : vk_R own is text sa s' := vk_R.warm hW0 hstr
  obtain ⟨U, hsteps, hrun, hend, hW, hsame, ce, hce, hO⟩ := X₁.ctorThrowS hexec htr (own := own) (cls := cls) (names := names) (ic := ic) hown' hcls hnames h (fun x hx => nomatch hx) hfX hkX hcellA (by rw [hhp, hT]; exact Nat.le_refl _) (msg := .ref sa) rfl
    (g := { method := m, pc := pc + 6, locals := ls, stack := .ref sa :: .ref T.heap.size :: .ref T.heap.size :: rest, locked := none }) rfl hsize rfl rfl (rest := rest) rfl
    (by rw [hb]; exact d6) (by rw [hb]; exact d9) hout hRframes (by simp only [List.map_cons, List.sum_cons, hcat]; omega) hlocks
  obtain ⟨f1, f2⟩ := vx_frame hsame
  rw [hhp] at f1 f2
  have hWs : s.WarmedH U.vm := State.WarmedH.trans hW0 hW
  have hcl : s.vm.findClass cls = some ce.cls := by
    have h9 := hO.cls
    rw [hvm] at h9
    exact h9
  have hall : s.sameButNew ({ U with vm := s.vm } : State) locs mc ms := by
    subst hA
    obtain ⟨e1, e2⟩ := hsame
    rw [State.setFrames_setFrames] at e1
    have h2 : (T.setVm s.vm).sameButNew ({ U with vm := s.vm } : State) [] (0 + 1) (0 + 6) := ⟨e1, e2⟩
    have h3 := X.same.trans h2
    rw [List.append_nil] at h3
    exact h3.mono hc hs
  refine ⟨U, ?_, .threw T.heap.size, hrun, hend, Or.inr ⟨T.heap.size, rfl, cls, ce, locs, hx U hWs.alike f1 (fun q hq => f2 q hq (fun z hz => nomatch hz)), hce, hO.vm, hcl, hWs, hall, hf⟩⟩
  refine st1 _ ?_
  show Steps p.tables e below (T1.setTop { method := m, pc := pc + 3, locals := ls, stack := .ref T.heap.size :: rest, locked := none }) _
  jvm_step X₁.here [X₁.here.top, hexec, d3', Value.category]
  exact X₁.ldcString hexec (own := own) (text := text) (index := is) (a := sa) hown' hstr'.1 hstr'.2
    (g := { method := m, pc := pc + 4, locals := ls, stack := .ref T.heap.size :: .ref T.heap.size :: rest, locked := none }) rfl d4' _ hsteps
/-- 'throw new E("text")', the text by a wide index -/
theorem vx_throwSW {cc : ByteArray} {pc : Nat} (hexec : p.tables.exec = Jvm.exec) (hb : c.code = cc) (hl : l.stackTraces = false) {own cls text : String} {names : List String} {ik is ic mc ms sa : Nat} {A : Nat → Prop}
    (hown : s.vm.findClass own = some m.cls) (hcls : Bundle.fit cls = true) (hnames : ∀ n ∈ names, Bundle.fit n = true)
    (hk : (Cond.classLink own ik cls).before args s = true) (hini : (Cond.initialized cls).before args s = true) (hstr : vk_R own is text sa s) (hat : ∀ w ∈ vx_atS own ic cls names, w.before args s = true)
    (hgood : ∀ w ∈ Cond.classLink own ik cls :: Cond.initialized cls :: vx_atS own ic cls names, vx_ot w = true)
    (hU : vx_Zq Bundle.tN "UNASSIGNED_STACK" Bundle.steD A s s.heap) (hN : vx_Zq Bundle.tN "SUPPRESSED_SENTINEL" Bundle.listD A s s.heap) (hS : va_S A s.heap H locs) (hsize : ls.size = c.maxLocals)
    (d0 : decode cc pc = .ok (.new ik, 3)) (d3 : decode cc (pc + 3) = .ok (.dup, 1)) (d4 : decode cc (pc + 4) = .ok (.ldc_w is, 3)) (d7 : decode cc (pc + 7) = .ok (.invokespecial ic, 3)) (d10 : decode cc (pc + 10) = .ok (.athrow, 1))
    (hout : ∀ x ∈ c.exceptionTable.toList, covers x (pc + 10) = false)
    (hRframes : names.length + 3 < R.frames) (hRlocals : (rest.map fun v => v.category).sum + (13 * (names.length + 1) + 43) ≤ R.locals) (hRcells : cells + 1 ≤ R.cells) (hRslots : slots + 6 ≤ R.slots) (hlocks : meth.locks = false)
    (hx : ∀ t : State, s.vm.Alike t.vm → H.size ≤ t.heap.size → (∀ q : Nat, q < H.size → t.heap[q]? = H[q]?) → XC cls s t)
    (hf : ∀ z ∈ locs, free z.base) (hc : cells + 1 ≤ mc) (hs : slots + 6 ≤ ms) :
    W p l e R s m args below meth c H locs cells slots (vx_MQ below Qc XC args s mc ms free) (F0 m pc ls rest) := by
  intro T hT X
  have htr : e.platform.stackTraces = false := (show e.platform.stackTraces = l.stackTraces by rw [X.admits.platform]).trans hl
  have Y := vx_rebase X (R' := { frames := R.frames, locals := R.locals, cells := 1, slots := 6 }) (Nat.le_refl _) (Nat.le_refl _) hRcells hRslots
  obtain ⟨s', hA⟩ : ∃ z, z = (T.setVm s.vm).setFrames (.invoking m args :: below) := ⟨_, rfl⟩
  rw [← hA] at Y
  have hvm : s'.vm = s.vm := by rw [hA]; rfl
  have hhp : s'.heap = H := by rw [hA]; exact hT
  have hW0 : s.WarmedH s'.vm := by rw [hvm]; exact State.WarmedH.refl s
  have hat' : ∀ w ∈ vx_atS own ic cls names, w.before args s' = true := fun w hw => vx_ot_at hW0 hvm.symm (hgood w (List.mem_cons_of_mem _ (List.mem_cons_of_mem _ hw))) (hat w hw)
  have hk' : (Cond.classLink own ik cls).before args s' = true := vx_ot_at hW0 hvm.symm (hgood _ List.mem_cons_self) hk
  have hini' : (Cond.initialized cls).before args s' = true := vx_ot_at hW0 hvm.symm (hgood _ (List.mem_cons_of_mem _ List.mem_cons_self)) hini
  have hU' : vx_Zq Bundle.tN "UNASSIGNED_STACK" Bundle.steD A s' s'.heap := by rw [hhp]; exact vx_Zq.moved hW0.alike (hU.kept hS.2.1)
  have hN' : vx_Zq Bundle.tN "SUPPRESSED_SENTINEL" Bundle.listD A s' s'.heap := by rw [hhp]; exact vx_Zq.moved hW0.alike (hN.kept hS.2.1)
  have h : ∀ w ∈ Bundle.ownAtoms own ic cls names, w.before args s' = true := vx_own hat' (vx_isRefq hU'.1) (vx_isRefq hN'.1) hU'.2.word hN'.2.word
  have hown' : s'.vm.findClass own = some m.cls := by rw [hvm]; exact hown
  have hins : (Cond.instantiable cls 6).before args s' = true := h _ (by simp [Bundle.ownAtoms])
  obtain ⟨vm₁, cX, kX, hfX, hkX, -, -, X₁, st1⟩ := Y.newCold hexec (own := own) (C := cls) (index := ik) (n := 6) hown' hk' hins hini'
    (g := F0 m pc ls rest) rfl (by rw [hb]; exact d0) (Nat.le_refl _) (Nat.le_refl _)
  generalize hT1 : (T.setVm vm₁).pushCell { cls := cX, slots := kX.instanceTypes.map defaultValue, vm := .none } = T1 at X₁ st1
  have hcat : (Value.ref T.heap.size).category = 1 := rfl
  have hcellA : T1.heap[T.heap.size]? = some (freshCell cX kX) := by rw [← hT1]; exact State.heap_pushCell_size _ _
  have d3' : decode c.code (pc + 3) = .ok (.dup, 1) := by rw [hb]; exact d3
  have d4' : decode c.code (pc + 4) = .ok (.ldc_w is, 3) := by rw [hb]; exact d4
  have hstr' : vk_R own is text sa s' := vk_R.warm hW0 hstr
  obtain ⟨U, hsteps, hrun, hend, hW, hsame, ce, hce, hO⟩ := X₁.ctorThrowS hexec htr (own := own) (cls := cls) (names := names) (ic := ic) hown' hcls hnames h (fun x hx => nomatch hx) hfX hkX hcellA (by rw [hhp, hT]; exact Nat.le_refl _) (msg := .ref sa) rfl
    (g := { method := m, pc := pc + 7, locals := ls, stack := .ref sa :: .ref T.heap.size :: .ref T.heap.size :: rest, locked := none }) rfl hsize rfl rfl (rest := rest) rfl
    (by rw [hb]; exact d7) (by rw [hb]; exact d10) hout hRframes (by simp only [List.map_cons, List.sum_cons, hcat]; omega) hlocks
  obtain ⟨f1, f2⟩ := vx_frame hsame
  rw [hhp] at f1 f2
  have hWs : s.WarmedH U.vm := State.WarmedH.trans hW0 hW
  have hcl : s.vm.findClass cls = some ce.cls := by
    have h9 := hO.cls
    rw [hvm] at h9
    exact h9
  have hall : s.sameButNew ({ U with vm := s.vm } : State) locs mc ms := by
    subst hA
    obtain ⟨e1, e2⟩ := hsame
    rw [State.setFrames_setFrames] at e1
    have h2 : (T.setVm s.vm).sameButNew ({ U with vm := s.vm } : State) [] (0 + 1) (0 + 6) := ⟨e1, e2⟩
    have h3 := X.same.trans h2
    rw [List.append_nil] at h3
    exact h3.mono hc hs
  refine ⟨U, ?_, .threw T.heap.size, hrun, hend, Or.inr ⟨T.heap.size, rfl, cls, ce, locs, hx U hWs.alike f1 (fun q hq => f2 q hq (fun z hz => nomatch hz)), hce, hO.vm, hcl, hWs, hall, hf⟩⟩
  refine st1 _ ?_
  show Steps p.tables e below (T1.setTop { method := m, pc := pc + 3, locals := ls, stack := .ref T.heap.size :: rest, locked := none }) _
  jvm_step X₁.here [X₁.here.top, hexec, d3', Value.category]
  exact X₁.ldcStringW hexec (own := own) (text := text) (index := is) (a := sa) hown' hstr'.1 hstr'.2
    (g := { method := m, pc := pc + 4, locals := ls, stack := .ref T.heap.size :: .ref T.heap.size :: rest, locked := none }) rfl d4' _ hsteps
end Ends
section Bodies
variable {l : Launch}
theorem vx_ofW {y : MethodName} {ws ws' : List Cond} {rm : Room} {Pc : Array Value → State → Prop} {Qc : Array Value → State → Outcome → State → Prop} {XC : String → State → State → Prop} {mc ms : Nat} {free : Addr → Prop} {cc : ByteArray} {maxL : Nat} {ret : Option FieldType}
    (hy : plainName y.cls = true) (hw : ws = Cond.code y cc maxL ret :: ws')
    (body : ∀ p e s m args below meth c s₁, BodyLoose p l y (headSpec ws rm) cc maxL ret e s m args below meth c s₁ → c.maxLocals = maxL → (∀ x ∈ c.exceptionTable.toList, False) → Pc args s →
      W p l e (headSpec ws rm).room s m args below meth c s.heap [] 0 0 (vx_MQ below Qc XC args s mc ms free) (entryFrame m args maxL)) : vx_Met l y ws rm Pc Qc XC mc ms free := by
  refine MetFree.of_bodyS (code := cc) (maxLocals := maxL) (ret := ret) hy ?_ ?_
  · intro args s m h hn
    obtain ⟨meth, c, h1, h2, h3, h4, h5, h6, -, -⟩ := Cond.code_spec hn (atoms_spec (ws := ws) h _ (by rw [hw]; exact List.mem_cons_self))
    exact ⟨meth, c, h1, h2, h3, h4, h5, h6⟩
  · intro p e s m args below meth c s₁ B hml hP _
    have hh0 : s₁.heap = s.heap := by rw [B.state]; rfl
    have ht : ∀ x ∈ c.exceptionTable.toList, False := by
      obtain ⟨meth9, c9, h1, h2, -, -, -, -, h7, -⟩ := Cond.code_spec B.named (atoms_spec (ws := ws) B.pre _ (by rw [hw]; exact List.mem_cons_self))
      cases Option.some.inj (h1.symm.trans B.method)
      cases Option.some.inj (h2.symm.trans (Stand.of_body B).code)
      intro x hx
      rw [Array.isEmpty_iff.mp h7] at hx
      cases hx
    obtain ⟨t, a1, o, b1, b2, b3⟩ := body p e s m args below meth c s₁ B hml ht hP s₁ hh0 (Stand.of_body B)
    exact ⟨t, o, a1, b1, b2, b3⟩
/-- the table of a body with handlers -/
theorem vx_table {p : Program} {x y : MethodName} {S : Spec} {cc bytes : ByteArray} {maxL maxL' : Nat} {ret ret' : Option FieldType} {e : Env} {s s₁ : State} {m : MethodId} {args : Array Value} {below : List Frame} {meth : Method} {c : Code} {hh : List (Nat × Nat × Nat × Nat)}
    (B : BodyLoose p l y S cc maxL ret e s m args below meth c s₁) (h : (Cond.codeWith y bytes maxL' ret' hh).before args s = true) : c.exceptionTable.toList = tableOf hh := by
  obtain ⟨m9, meth9, c9, hn9, h1, h2, -, -, h6, -⟩ := Cond.codeWith_spec h
  cases Option.some.inj (hn9.symm.trans B.named)
  cases Option.some.inj (h1.symm.trans B.method)
  cases Option.some.inj (h2.symm.trans (Stand.of_body B).code)
  rw [← h6, table_eq]
end Bodies
end VXA
/-! ===== END ===== -/
/-! ===== BEGIN a static call of a method with an exception table ===== -/
section VXS
variable {p : Program} {l : Launch} {e : Env} {R : Room} {s : State} {m : MethodId} {args : Array Value} {below : List Frame} {meth : Method} {c : Code} {T : State} {H : Heap} {locs : List Loc} {cells slots : Nat}
abbrev vx_CSW (R : Room) (s : State) (args : Array Value) (own : String) (index : Nat) (y : MethodName) (bytes : ByteArray) (maxL : Nat) (ret : Option FieldType) (hh : List (Nat × Nat × Nat × Nat)) (ws : List Cond) (rm : Room) (mc ms n : Nat) : Prop :=
  (rm.cells = mc ∧ rm.slots = ms ∧ rm.frames + 1 ≤ R.frames ∧ 8 + (maxL + 11) + rm.locals ≤ R.locals ∧ (∀ w ∈ ws, ∀ (a' : Array Value) (U : State), s.WarmedH U.vm → w.before a' U = true) ∧ Cond.codeWith y bytes maxL ret hh ∈ ws) ∧
  (Cond.codeWith y bytes maxL ret hh).before args s = true ∧ (Cond.initialized y.cls).before args s = true ∧ (y.cls ≠ "java/lang/invoke/MethodHandle" ∧ y.cls ≠ "java/lang/invoke/VarHandle") ∧
  (∀ sig, parseMethodDescriptor y.desc = some sig → n = sig.parameters.length) ∧ (Cond.methodLink own index y).before args s = true ∧ (Cond.static y).before args s = true
theorem vx_cwSW {own : String} {index maxL mc ms : Nat} {y : MethodName} {bytes : ByteArray} {ret : Option FieldType} {hh : List (Nat × Nat × Nat × Nat)} {Ts ws ws' : List Cond} {rm : Room} (n : Nat) (ht : ∀ w ∈ Ts, w.before args s = true) (hT : GoodIn Ts (va_wsS own index y ws)) (hw : ws = Cond.codeWith y bytes maxL ret hh :: ws') (hrc : rm.cells = mc) (hrs : rm.slots = ms)
    (hd : y.cls ≠ "java/lang/invoke/MethodHandle" ∧ y.cls ≠ "java/lang/invoke/VarHandle" ∧ (parseMethodDescriptor y.desc).map (fun d => d.parameters.length) = some n) (hR : rm.frames + 1 ≤ R.frames ∧ 8 + (maxL + 11) + rm.locals ≤ R.locals) :
    vx_CSW R s args own index y bytes maxL ret hh ws rm mc ms n := by
  have ok : ∀ w ∈ va_wsS own index y ws, w.before args s = true := fun w h => ht w (hT w h).1
  have hG : GoodIn Ts ws := fun w h => hT w (by unfold va_wsS; exact List.mem_append_right _ h)
  have hc : Cond.codeWith y bytes maxL ret hh ∈ ws := by rw [hw]; exact List.mem_cons_self
  refine ⟨⟨hrc, hrs, hR.1, hR.2, pay_in ht hG, hc⟩, ht _ (hG _ hc).1, ok _ (by simp [va_wsS]), ⟨hd.1, hd.2.1⟩, fun sig h => ?_, ok _ (by simp [va_wsS]), ok _ (by simp [va_wsS])⟩
  have h2 := hd.2.2
  rw [h] at h2
  exact (Option.some.inj h2).symm
theorem vx_callSW (X : Stand p l e R s m args below meth c T locs cells slots) (hexec : p.tables.exec = Jvm.exec) {own : String} {index : Nat} {y : MethodName} {bytes : ByteArray} {maxL : Nat} {ret : Option FieldType} {hh : List (Nat × Nat × Nat × Nat)}
    (hown : s.vm.findClass own = some m.cls) (hlink : (Cond.methodLink own index y).before args s = true) (hstat : (Cond.static y).before args s = true) (hinit : (Cond.initialized y.cls).before args s = true)
    (hcode : (Cond.codeWith y bytes maxL ret hh).before args s = true) (hy : y.cls ≠ "java/lang/invoke/MethodHandle" ∧ y.cls ≠ "java/lang/invoke/VarHandle")
    {W9 : Nat} {Pre : Pt → Array Value → Prop} {Post : Pt → Array Value → Option Value → Pt → Prop} (hK : Back l R p e below s args y 3 W9 Pre Post)
    {g : JFrame} (hg : g.method = m) (hsize : g.locals.size = c.maxLocals) {argsL rest : List Value} (hlen : ∀ sig, parseMethodDescriptor y.desc = some sig → argsL.length = sig.parameters.length)
    (hstack : g.stack = argsL.reverse ++ rest) (hW : 2 * g.monitorRoom + (rest.map fun v => v.category).sum ≤ W9) (hdg : decode c.code g.pc = .ok (.invokestatic index, 3))
    (hpre : ∀ vm₁, s.WarmedH vm₁ → Pre ⟨T.setVm vm₁, locs, cells, slots⟩ argsL.toArray) :
    ∃ (v : Option Value) (vm₁ : Vm) (B : Pt), s.WarmedH vm₁ ∧ Stand p l e R s m args below meth c B.U B.locs B.cells B.slots ∧ Post ⟨T.setVm vm₁, locs, cells, slots⟩ argsL.toArray v B ∧
      ∀ target, Steps p.tables e below (B.U.setTop { g with pc := g.pc + 3, stack := v.toList ++ rest }) target → Steps p.tables e below (T.setTop g) target := by
  obtain ⟨mk, methM, cM, hnamed, hmethM, -, -, -, -, -, -, hsigM⟩ := Cond.codeWith_spec hcode
  have hstatic : methM.isStatic = true := Cond.static_spec hnamed hmethM hstat
  obtain ⟨kP, hkP, -⟩ := className_of_methodNamed hnamed
  have hinitP : kP.init = .initialized := Cond.initialized_spec (findClass_of_methodNamed hnamed) hkP hinit
  obtain ⟨vm₁, X₁, hstep₁⟩ := X.invokestatic hexec hown hlink hnamed hmethM hstatic hkP hinitP hy (g := g) hg (argsL := argsL) (rest := rest) (hlen _ hsigM) hstack hdg
  obtain ⟨v, B, X', hpost, hsteps⟩ := hK m meth c ⟨T.setVm vm₁, locs, cells, slots⟩ { g with stack := rest } (.invokestatic index) mk argsL.toArray X₁ hg hsize hdg hW (X₁.named hnamed) (hpre vm₁ X₁.warmed)
  exact ⟨v, vm₁, B, X₁.warmed, X', hpost, fun target h => hstep₁ _ fun acts => by rw [doInvoke_state]; exact hsteps.trans h⟩
theorem vx_runSW {y : MethodName} {bytes cc : ByteArray} {maxL nL mc ms n index : Nat} {ret : Option FieldType} {hh : List (Nat × Nat × Nat × Nat)} {ws : List Cond} {rm : Room} {Pc : Array Value → State → Prop} {Qc : Array Value → State → Outcome → State → Prop} {free : Addr → Prop} {Ts : List Cond} {own : String} {As rest : List Value} {g : JFrame}
    (S : CallFix p m c cc nL s args Ts own) (hM : Met l y ws rm Pc Qc mc ms free) (cw : vx_CSW R s args own index y bytes maxL ret hh ws rm mc ms n) (hp : PreS s H Pc As)
    (hg : g.method = m) (hn : As.length = n) (hsize : g.locals.size = nL) (hstack : g.stack = As.reverse ++ rest) (hW : 2 * g.monitorRoom + (rest.map fun v => v.category).sum ≤ 8) (hdg : decode cc g.pc = .ok (.invokestatic index, 3)) (hf : cells + mc ≤ R.cells ∧ slots + ms ≤ R.slots) :
    va_Run p l e R s m args below meth c H locs cells slots mc ms g rest (Qc As.toArray) (free) := by
  obtain ⟨⟨hrc, hrs, hfr, hlo, hws, hcw⟩, hcode, hini, hy, hlen, hl, hstt⟩ := cw
  have hK : Back l R p e below s args y 3 8 (PreOf R mc ms Pc) (PostOf Qc mc ms free) := va_backW (hh := hh) (bytes := bytes) (maxL := maxL) (ret := ret) hM hp.1 hrc hrs hfr hlo hws hcw (fun a' U hW => word_at hW (Or.inl (by first | rfl | simp [Cond.onTables, Cond.keeps, Cond.steady])) hini)
  obtain ⟨hx, hb, hml, ho, -⟩ := S
  intro T hT X
  obtain ⟨v, vm₁, ⟨U', l2, c2, s2⟩, hW₁, X', ⟨g', mk, t, L, e1, e2, hq, h1, hL, h2, h3⟩, st⟩ := vx_callSW X hx (hh := hh) (bytes := bytes) (maxL := maxL) (ret := ret) ho hl hstt hini hcode hy hK hg (hsize.trans hml.symm) (argsL := As) (rest := rest) (fun sig h => hn.trans (hlen sig h)) hstack hW (by rw [hb]; exact hdg)
    (fun vm₁ hW₁ => ⟨hf.1, hf.2, hp.2 (T.setVm vm₁) hT hW₁⟩)
  dsimp only [Pt.U, Pt.locs, Pt.cells, Pt.slots] at X' e1 e2 h1 h2 h3 st
  subst h1; subst h2; subst h3
  exact ⟨v, (T.setVm vm₁).calling g' mk As.toArray, t, U', L, hT, X', hL, e1, e2, hq, st⟩
/-- not caught here, past rows that name other classes: it goes on to the caller -/
theorem vx_outP {p : Program} {l : Launch} {e : Env} {R : Room} {s : State} {m : MethodId} {args : Array Value} {below : List Frame} {meth : Method} {c : Code} {H : Heap} {locs : List Loc} {cells slots : Nat} {free : Addr → Prop} {ls : Array Slot} {rest : List Value} {Qc : Array Value → State → Outcome → State → Prop} {XC : String → State → State → Prop}
    {pc : Nat} {own E : String} {ce : Cell} {q : Addr} {mc ms : Nat} (hown : s.vm.findClass own = some m.cls) (hlocks : meth.locks = false)
    (hpass : ∀ z ∈ c.exceptionTable.toList, covers z pc = false ∨ (z.catchType ≠ 0 ∧ ∃ nm : String, (Cond.classLink own z.catchType nm).before args s = true ∧ va_Nc E nm s)) (hcell : H[q]? = some ce) (hv : ce.vm = .none) (hcl : s.vm.findClass E = some ce.cls)
    (hx : ∀ t : State, t.heap = H → s.vm.Alike t.vm → XC E s t) (hf : ∀ z ∈ locs, free z.base) (hc : cells ≤ mc) (hs : slots ≤ ms) :
    vx_W p l e R s m args below meth c H locs cells slots (vx_MQ below Qc XC args s mc ms free) (F0 m pc ls rest) q := by
  intro T hT X
  have hpl : e.platform.magicAccessors = ({} : Platform).magicAccessors := by rw [X.admits.platform]
  obtain ⟨vm', hW', X', st⟩ := Jvm.Stand.outThrough X hlocks q (g := F0 m pc ls rest) rfl rfl rfl (cell := ce) (by rw [hT]; exact hcell) (by rw [hv]; rfl)
    (by obtain ⟨k9, h9, -⟩ := Vm.findClass_spec hcl; exact ⟨k9, h9⟩) (fun z hz => by
      rcases hpass z hz with h | ⟨hz0, nm, hl1, hn1⟩
      · exact Or.inl h
      · obtain ⟨c6, hc6, hcl6⟩ := Cond.classLink_spec hown hl1 e.platform hpl
        obtain ⟨a8, b8, h1, h2, h3⟩ := hn1
        cases Option.some.inj (h1.symm.trans hcl)
        cases Option.some.inj (h2.symm.trans hc6)
        exact Or.inr ⟨hz0, _, hcl6, h3⟩)
  obtain ⟨g₀, hfr⟩ := X'.frames_eq
  have hcell9 : ((T.setVm vm').setFrames (.throwing q :: below)).heap[q]? = some ce := by
    show T.heap[q]? = some ce
    rw [hT]; exact hcell
  have hend : Ended ((T.setVm vm').setFrames (.throwing q :: below)) below (.threw q) := State.frames_setFrames _ (State.cur_lt_of_frames hfr)
  refine ⟨(T.setVm vm').setFrames (.throwing q :: below), ?_, .threw q, X'.here.running, hend, Or.inr ⟨q, rfl, E, ce, locs, hx _ hT (X'.ends _).1.alike, hcell9, hv, hcl, (X'.ends _).1, (X'.ends _).2.mono hc hs, hf⟩⟩
  rw [X.pushThrowing_eq]
  exact st
/-- a thing of a world lies in the heap -/
theorem vx_lt {D : va_G} {cl : List vw_C} {ws : va_W} {H1 : Heap} (h : va_P D cl ws H1) {k : Nat} {q : Nat × va_E} (hk : ws[k]? = some q) : q.1 < H1.size := (h k q hk).lt
end VXS
/-! ===== END ===== -/
/-! ===== BEGIN methods with a table of their own: called by a name, returning or throwing ===== -/
section VXH
/-! vx_backW, vx_callVX, vx_callSX, vx_callVW, vx_runVW, vx_runVX, vx_runSX, vx_ofWH follow the same proofs as their sisters above (Free/Laws.lean, Shelf42/LK1.lean); vx_outP calls Shelf42/NT130.lean (outThrough). -/
section
variable {l : Launch} {R : Room} {p : Program} {e : Env} {below : List Frame} {s : State} {sargs : Array Value} {y : MethodName} {len W9 : Nat}
theorem vx_backW {ws : List Cond} {rm : Room} {Pc : Array Value → State → Prop} {Qc : Array Value → State → Outcome → State → Prop} {XC : String → State → State → Prop} {mc ms : Nat} {free : Addr → Prop} {bytes : ByteArray} {maxL : Nat} {ret : Option FieldType} {hh : List (Nat × Nat × Nat × Nat)}
    (hM : vx_Met l y ws rm Pc Qc XC mc ms free) (hblind : FrameBlind Pc) (hrc : rm.cells = mc) (hrs : rm.slots = ms)
    (hframes : rm.frames + 1 ≤ R.frames) (hlocals : W9 + (maxL + 11) + rm.locals ≤ R.locals)
    (hws : ∀ w ∈ ws, ∀ a' U, s.WarmedH U.vm → w.before a' U = true) (hcode : Cond.codeWith y bytes maxL ret hh ∈ ws) (hinit : ∀ a' U, s.WarmedH U.vm → (Cond.initialized y.cls).before a' U = true) :
    vx_Back l R p e below s sargs y len W9 (PreOf R mc ms Pc) (PostOf Qc mc ms free) (vx_Post XC mc ms free) := by
  intro m meth c A g ig mk a X hg hsize hdg hW hn hp
  have h1 : (headSpec ws rm).pre.before a A.U = true := atoms_intro fun w hw => hws w hw _ _ X.warmed
  have h2 : (Cond.codeWith y bytes maxL ret hh).before a A.U = true := hws _ hcode _ _ X.warmed
  have h3 : (Cond.initialized y.cls).before a A.U = true := hinit _ _ X.warmed
  have h4 : A.cells + (headSpec ws rm).room.cells ≤ R.cells := by rw [show (headSpec ws rm).room.cells = mc from hrc]; exact hp.1
  have h5 : A.slots + (headSpec ws rm).room.slots ≤ R.slots := by rw [show (headSpec ws rm).room.slots = ms from hrs]; exact hp.2.1
  have hPc : Pc a (A.U.calling g mk a) := hblind _ _ _ _ hp.2.2
  obtain ⟨U, Ls, c0, s0⟩ := A
  dsimp only [Pt.U, Pt.locs, Pt.cells, Pt.slots] at h1 h2 h3 h4 h5 X hn hPc ⊢
  obtain ⟨m9, methY, cY, hn9, hmY, hcY, -, hlY, -⟩ := Cond.codeWith_spec h2
  cases Option.some.inj (hn9.symm.trans hn)
  obtain ⟨kY, hkY, -⟩ := className_of_methodNamed hn
  have hinitY : kY.init = .initialized := Cond.initialized_spec (findClass_of_methodNamed hn) hkY h3
  have h : At U g.method c below := by rw [hg]; exact X.here
  have hlocals9 : W9 + (maxL + 11) + (headSpec ws rm).room.locals ≤ R.locals := hlocals
  have happ : (headSpec ws rm).appliesLoose y e.platform (U.calling g mk a) = true :=
    Spec.appliesLoose_calling (g := g) h hdg hn hkY hinitY
      (X.room_calling (g := g) (R' := (headSpec ws rm).room) hsize hmY hcY hframes (by rw [hlY]; omega) h4 h5) h1
  obtain ⟨mid, hmid⟩ := h.above
  have hfr : (U.setTop g).frames = (.java g :: mid) ++ below := by rw [State.frames_setTop' g h.top, hmid]; rfl
  obtain ⟨o, s₂, hsteps, -, hend, hq⟩ := Steps.callFree hM p X.admits X.cas X.clock (acts := []) hfr happ hPc trivial
  have hq' : vx_Q Qc XC mc ms free a (U.calling g mk a) o s₂ := hq
  rw [State.frames_setTop' g h.top] at hend
  obtain ⟨g₀, hg0⟩ := Option.isSome_iff_exists.mp h.top
  obtain ⟨r, hr⟩ := State.topJava?_eq_some.mp hg0
  have hr' : (({ U with heap := s₂.heap, slotsUsed := s₂.slotsUsed } : State).setVm s₂.vm).frames = .java g₀ :: r := hr
  rcases hq' with ⟨hqc, L, hfe, hL⟩ | ⟨q, rfl, E, ce, L, hx, hce, hcv, hcl, hW₂, hsm, hL⟩
  · obtain ⟨⟨v, rfl⟩, hW₂, e2, q2, q3, q4, q5, q6⟩ := id hfe
    have e3 : s₂ = ({ (U.calling g mk a).setFrames s₂.frames with heap := s₂.heap, slotsUsed := s₂.slotsUsed } : State).setVm s₂.vm := by
      have : s₂ = ({ s₂ with vm := (U.calling g mk a).vm } : State).setVm s₂.vm := rfl
      rw [e2] at this
      exact this
    obtain ⟨c₂, i₂, len₂, hc₂, hd₂, hf₂⟩ := hend
    have hW' : U.WarmedH s₂.vm := hW₂
    have hcc : c₂ = c := by
      have h1 : s₂.code? g.method = U.code? g.method := by
        rw [State.code?_eq, State.code?_eq, hW'.alike.method?]
      exact Option.some.inj (hc₂.symm.trans (h1.trans h.code))
    subst hcc
    have hlen : len₂ = len := by rw [hdg] at hd₂; cases hd₂; rfl
    subst hlen
    have hs₂ : s₂ = (({ U with heap := s₂.heap, slotsUsed := s₂.slotsUsed } : State).setVm s₂.vm).setTop { g with pc := g.pc + len₂, stack := v.toList ++ g.stack } := by
      refine e3.trans ?_
      rw [hf₂, State.calling_eq h.top, State.setFrames_setFrames, State.setTop_of_frames _ hr', hr]
      rfl
    have hsame : U.sameButNew ({ U with heap := s₂.heap, slotsUsed := s₂.slotsUsed } : State) L mc ms := by
      refine ⟨?_, q2, q3, q4, q5, q6⟩
      obtain ⟨t, ht, -⟩ := State.frames_cons hr
      show ({ U with heap := s₂.heap, slotsUsed := s₂.slotsUsed } : State) = { U.setFrames U.frames with heap := s₂.heap, slotsUsed := s₂.slotsUsed }
      rw [State.setFrames_self ht]
    subst hg
    refine Or.inl ⟨v, ⟨(({ U with heap := s₂.heap, slotsUsed := s₂.slotsUsed } : State).setVm s₂.vm), Ls ++ L, c0 + mc, s0 + ms⟩,
      ⟨X.admits, X.cas, X.clock, X.frames, X.room, X.hears, X.method, X.code, (X.here.setHeapUsed s₂.heap s₂.slotsUsed).setVm hW'.alike, X.tail, State.WarmedH.trans X.warmed hW', X.limits, X.bytes, X.same.trans (hsame.setVm s.vm)⟩,
      ⟨g, mk, s₂, L, rfl, rfl, hqc, rfl, hL, rfl, rfl⟩, ?_⟩
    show Steps p.tables e below _ ((({ U with heap := s₂.heap, slotsUsed := s₂.slotsUsed } : State).setVm s₂.vm).setTop { g with pc := g.pc + len₂, stack := v.toList ++ g.stack })
    rw [← hs₂]
    exact hsteps
  · obtain ⟨e2, q2, q3, q4, q5, q6⟩ := id hsm
    have e3 : s₂ = ({ (U.calling g mk a).setFrames s₂.frames with heap := s₂.heap, slotsUsed := s₂.slotsUsed } : State).setVm s₂.vm := by
      have : s₂ = ({ s₂ with vm := (U.calling g mk a).vm } : State).setVm s₂.vm := rfl
      rw [e2] at this
      exact this
    have hf₂ : s₂.frames = .throwing q :: .java g :: U.frames.tail := hend
    have hW' : U.WarmedH s₂.vm := hW₂
    have hs₂ : s₂ = ((({ U with heap := s₂.heap, slotsUsed := s₂.slotsUsed } : State).setVm s₂.vm).setTop g).pushFrame (.throwing q) := by
      refine e3.trans ?_
      rw [hf₂, State.calling_eq h.top, State.setFrames_setFrames, State.pushFrame, State.frames_setTop _ hr', State.setTop_of_frames _ hr', State.setFrames_setFrames, hr]
      rfl
    have hsame : U.sameButNew ({ U with heap := s₂.heap, slotsUsed := s₂.slotsUsed } : State) L mc ms := by
      refine ⟨?_, q2, q3, q4, q5, q6⟩
      obtain ⟨t, ht, -⟩ := State.frames_cons hr
      show ({ U with heap := s₂.heap, slotsUsed := s₂.slotsUsed } : State) = { U.setFrames U.frames with heap := s₂.heap, slotsUsed := s₂.slotsUsed }
      rw [State.setFrames_self ht]
    subst hg
    refine Or.inr ⟨q, ⟨(({ U with heap := s₂.heap, slotsUsed := s₂.slotsUsed } : State).setVm s₂.vm), Ls ++ L, c0 + mc, s0 + ms⟩,
      ⟨X.admits, X.cas, X.clock, X.frames, X.room, X.hears, X.method, X.code, (X.here.setHeapUsed s₂.heap s₂.slotsUsed).setVm hW'.alike, X.tail, State.WarmedH.trans X.warmed hW', X.limits, X.bytes, X.same.trans (hsame.setVm s.vm)⟩,
      ⟨g, mk, s₂, L, E, ce, rfl, rfl, hx, hce, hcv, hcl, rfl, hL, rfl, rfl⟩, ?_⟩
    show Steps p.tables e below _ (((({ U with heap := s₂.heap, slotsUsed := s₂.slotsUsed } : State).setVm s₂.vm).setTop g).pushFrame (.throwing q))
    rw [← hs₂]
    exact hsteps
end
variable {p : Program} {l : Launch} {e : Env} {R : Room} {s : State} {m : MethodId} {args : Array Value} {below : List Frame} {meth : Method} {c : Code} {T : State} {H : Heap} {locs : List Loc} {cells slots : Nat}
theorem vx_callVX (X : Stand p l e R s m args below meth c T locs cells slots) (hexec : p.tables.exec = Jvm.exec) {own C : String} {index : Nat} {y : MethodName} {bytes : ByteArray} {maxL : Nat} {ret : Option FieldType} {hh : List (Nat × Nat × Nat × Nat)}
    (hown : s.vm.findClass own = some m.cls) (hlink : (Cond.methodLink own index y).before args s = true) (hinst : (Cond.instanceMethod y).before args s = true) (hsel : (Cond.selects C y y).before args s = true)
    (hcode : (Cond.codeWith y bytes maxL ret hh).before args s = true) (hy : y.cls ≠ "java/lang/invoke/MethodHandle" ∧ y.cls ≠ "java/lang/invoke/VarHandle")
    {W9 : Nat} {Pre : Pt → Array Value → Prop} {Post : Pt → Array Value → Option Value → Pt → Prop} {PostX : Pt → Array Value → Addr → Pt → Prop} (hK : vx_Back l R p e below s args y 3 W9 Pre Post PostX)
    {b : Addr} {cellB : Cell} (hcell : T.heap[b]? = some cellB) (hobj : cellB.vm.isStatics = false) (hcls : s.vm.findClass C = some cellB.cls)
    {g : JFrame} (hg : g.method = m) (hsize : g.locals.size = c.maxLocals) {argsL rest : List Value} (hlen : ∀ sig, parseMethodDescriptor y.desc = some sig → argsL.length = sig.parameters.length)
    (hstack : g.stack = argsL.reverse ++ .ref b :: rest) (hW : 2 * g.monitorRoom + (rest.map fun v => v.category).sum ≤ W9) (hdg : decode c.code g.pc = .ok (.invokevirtual index, 3))
    (hpre : ∀ vm₁, s.WarmedH vm₁ → Pre ⟨T.setVm vm₁, locs, cells, slots⟩ (Value.ref b :: argsL).toArray) :
    (∃ (v : Option Value) (vm₁ : Vm) (B : Pt), s.WarmedH vm₁ ∧ Stand p l e R s m args below meth c B.U B.locs B.cells B.slots ∧ Post ⟨T.setVm vm₁, locs, cells, slots⟩ (Value.ref b :: argsL).toArray v B ∧
      ∀ target, Steps p.tables e below (B.U.setTop { g with pc := g.pc + 3, stack := v.toList ++ rest }) target → Steps p.tables e below (T.setTop g) target) ∨
    (∃ (q : Addr) (vm₁ : Vm) (B : Pt), s.WarmedH vm₁ ∧ Stand p l e R s m args below meth c B.U B.locs B.cells B.slots ∧ PostX ⟨T.setVm vm₁, locs, cells, slots⟩ (Value.ref b :: argsL).toArray q B ∧
      Steps p.tables e below (T.setTop g) ((B.U.setTop { g with stack := rest }).pushFrame (.throwing q))) := by
  obtain ⟨mk, methM, hnamed, hmethM, hstM, habM⟩ := Cond.instanceMethod_spec hinst
  obtain ⟨m8, methM', cM, hn8, hmethM', -, -, -, -, -, -, hsigM⟩ := Cond.codeWith_spec hcode
  cases Option.some.inj (hn8.symm.trans hnamed)
  cases hmethM.symm.trans hmethM'
  obtain ⟨c2, r2, m2, q1, q2, q3, q4, kP, hkP, hkPi⟩ := Cond.selects_spec hsel
  cases hcls.symm.trans q1
  cases (State.methodFound?_of_named hnamed hy).symm.trans q2
  cases hnamed.symm.trans q3
  have hselP : selectMethod e.platform s.vm cellB.cls mk = .method mk := by rw [Launch.admits_selectMethod X.admits]; exact q4
  obtain ⟨vm₁, X₁, hstep₁⟩ := X.invokevirtual hexec hown hlink hnamed hmethM hstM hkP hkPi hy (a := b) (cell := cellB) hcell
    (fun z h => by rw [h] at hobj; cases hobj) hselP hmethM habM hkP hkPi (g := g) hg (argsL := argsL) (rest := rest) (hlen _ hsigM) hstack hdg
  rcases hK m meth c ⟨T.setVm vm₁, locs, cells, slots⟩ { g with stack := rest } (.invokevirtual index) mk (Value.ref b :: argsL).toArray X₁ hg hsize hdg hW (X₁.named hnamed) (hpre vm₁ X₁.warmed) with ⟨v, B, X', hpost, hsteps⟩ | ⟨q, B, X', hpost, hsteps⟩
  · exact Or.inl ⟨v, vm₁, B, X₁.warmed, X', hpost, fun target h => hstep₁ _ fun acts => by rw [doInvoke_state]; exact hsteps.trans h⟩
  · exact Or.inr ⟨q, vm₁, B, X₁.warmed, X', hpost, hstep₁ _ fun acts => by rw [doInvoke_state]; exact hsteps⟩
theorem vx_callSX (X : Stand p l e R s m args below meth c T locs cells slots) (hexec : p.tables.exec = Jvm.exec) {own : String} {index : Nat} {y : MethodName} {bytes : ByteArray} {maxL : Nat} {ret : Option FieldType} {hh : List (Nat × Nat × Nat × Nat)}
    (hown : s.vm.findClass own = some m.cls) (hlink : (Cond.methodLink own index y).before args s = true) (hstat : (Cond.static y).before args s = true) (hinit : (Cond.initialized y.cls).before args s = true)
    (hcode : (Cond.codeWith y bytes maxL ret hh).before args s = true) (hy : y.cls ≠ "java/lang/invoke/MethodHandle" ∧ y.cls ≠ "java/lang/invoke/VarHandle")
    {W9 : Nat} {Pre : Pt → Array Value → Prop} {Post : Pt → Array Value → Option Value → Pt → Prop} {PostX : Pt → Array Value → Addr → Pt → Prop} (hK : vx_Back l R p e below s args y 3 W9 Pre Post PostX)
    {g : JFrame} (hg : g.method = m) (hsize : g.locals.size = c.maxLocals) {argsL rest : List Value} (hlen : ∀ sig, parseMethodDescriptor y.desc = some sig → argsL.length = sig.parameters.length)
    (hstack : g.stack = argsL.reverse ++ rest) (hW : 2 * g.monitorRoom + (rest.map fun v => v.category).sum ≤ W9) (hdg : decode c.code g.pc = .ok (.invokestatic index, 3))
    (hpre : ∀ vm₁, s.WarmedH vm₁ → Pre ⟨T.setVm vm₁, locs, cells, slots⟩ argsL.toArray) :
    (∃ (v : Option Value) (vm₁ : Vm) (B : Pt), s.WarmedH vm₁ ∧ Stand p l e R s m args below meth c B.U B.locs B.cells B.slots ∧ Post ⟨T.setVm vm₁, locs, cells, slots⟩ argsL.toArray v B ∧
      ∀ target, Steps p.tables e below (B.U.setTop { g with pc := g.pc + 3, stack := v.toList ++ rest }) target → Steps p.tables e below (T.setTop g) target) ∨
    (∃ (q : Addr) (vm₁ : Vm) (B : Pt), s.WarmedH vm₁ ∧ Stand p l e R s m args below meth c B.U B.locs B.cells B.slots ∧ PostX ⟨T.setVm vm₁, locs, cells, slots⟩ argsL.toArray q B ∧
      Steps p.tables e below (T.setTop g) ((B.U.setTop { g with stack := rest }).pushFrame (.throwing q))) := by
  obtain ⟨mk, methM, cM, hnamed, hmethM, -, -, -, -, -, -, hsigM⟩ := Cond.codeWith_spec hcode
  have hstatic : methM.isStatic = true := Cond.static_spec hnamed hmethM hstat
  obtain ⟨kP, hkP, -⟩ := className_of_methodNamed hnamed
  have hinitP : kP.init = .initialized := Cond.initialized_spec (findClass_of_methodNamed hnamed) hkP hinit
  obtain ⟨vm₁, X₁, hstep₁⟩ := X.invokestatic hexec hown hlink hnamed hmethM hstatic hkP hinitP hy (g := g) hg (argsL := argsL) (rest := rest) (hlen _ hsigM) hstack hdg
  rcases hK m meth c ⟨T.setVm vm₁, locs, cells, slots⟩ { g with stack := rest } (.invokestatic index) mk argsL.toArray X₁ hg hsize hdg hW (X₁.named hnamed) (hpre vm₁ X₁.warmed) with ⟨v, B, X', hpost, hsteps⟩ | ⟨q, B, X', hpost, hsteps⟩
  · exact Or.inl ⟨v, vm₁, B, X₁.warmed, X', hpost, fun target h => hstep₁ _ fun acts => by rw [doInvoke_state]; exact hsteps.trans h⟩
  · exact Or.inr ⟨q, vm₁, B, X₁.warmed, X', hpost, hstep₁ _ fun acts => by rw [doInvoke_state]; exact hsteps⟩
theorem vx_callVW (X : Stand p l e R s m args below meth c T locs cells slots) (hexec : p.tables.exec = Jvm.exec) {own C : String} {index : Nat} {y : MethodName} {bytes : ByteArray} {maxL : Nat} {ret : Option FieldType} {hh : List (Nat × Nat × Nat × Nat)}
    (hown : s.vm.findClass own = some m.cls) (hlink : (Cond.methodLink own index y).before args s = true) (hinst : (Cond.instanceMethod y).before args s = true) (hsel : (Cond.selects C y y).before args s = true)
    (hcode : (Cond.codeWith y bytes maxL ret hh).before args s = true) (hy : y.cls ≠ "java/lang/invoke/MethodHandle" ∧ y.cls ≠ "java/lang/invoke/VarHandle")
    {W9 : Nat} {Pre : Pt → Array Value → Prop} {Post : Pt → Array Value → Option Value → Pt → Prop} (hK : Back l R p e below s args y 3 W9 Pre Post)
    {b : Addr} {cellB : Cell} (hcell : T.heap[b]? = some cellB) (hobj : cellB.vm.isStatics = false) (hcls : s.vm.findClass C = some cellB.cls)
    {g : JFrame} (hg : g.method = m) (hsize : g.locals.size = c.maxLocals) {argsL rest : List Value} (hlen : ∀ sig, parseMethodDescriptor y.desc = some sig → argsL.length = sig.parameters.length)
    (hstack : g.stack = argsL.reverse ++ .ref b :: rest) (hW : 2 * g.monitorRoom + (rest.map fun v => v.category).sum ≤ W9) (hdg : decode c.code g.pc = .ok (.invokevirtual index, 3))
    (hpre : ∀ vm₁, s.WarmedH vm₁ → Pre ⟨T.setVm vm₁, locs, cells, slots⟩ (Value.ref b :: argsL).toArray) :
    ∃ (v : Option Value) (vm₁ : Vm) (B : Pt), s.WarmedH vm₁ ∧ Stand p l e R s m args below meth c B.U B.locs B.cells B.slots ∧ Post ⟨T.setVm vm₁, locs, cells, slots⟩ (Value.ref b :: argsL).toArray v B ∧
      ∀ target, Steps p.tables e below (B.U.setTop { g with pc := g.pc + 3, stack := v.toList ++ rest }) target → Steps p.tables e below (T.setTop g) target := by
  obtain ⟨mk, methM, hnamed, hmethM, hstM, habM⟩ := Cond.instanceMethod_spec hinst
  obtain ⟨m8, methM', cM, hn8, hmethM', -, -, -, -, -, -, hsigM⟩ := Cond.codeWith_spec hcode
  cases Option.some.inj (hn8.symm.trans hnamed)
  cases hmethM.symm.trans hmethM'
  obtain ⟨c2, r2, m2, q1, q2, q3, q4, kP, hkP, hkPi⟩ := Cond.selects_spec hsel
  cases hcls.symm.trans q1
  cases (State.methodFound?_of_named hnamed hy).symm.trans q2
  cases hnamed.symm.trans q3
  have hselP : selectMethod e.platform s.vm cellB.cls mk = .method mk := by rw [Launch.admits_selectMethod X.admits]; exact q4
  obtain ⟨vm₁, X₁, hstep₁⟩ := X.invokevirtual hexec hown hlink hnamed hmethM hstM hkP hkPi hy (a := b) (cell := cellB) hcell
    (fun z h => by rw [h] at hobj; cases hobj) hselP hmethM habM hkP hkPi (g := g) hg (argsL := argsL) (rest := rest) (hlen _ hsigM) hstack hdg
  obtain ⟨v, B, X', hpost, hsteps⟩ := hK m meth c ⟨T.setVm vm₁, locs, cells, slots⟩ { g with stack := rest } (.invokevirtual index) mk (Value.ref b :: argsL).toArray X₁ hg hsize hdg hW (X₁.named hnamed) (hpre vm₁ X₁.warmed)
  exact ⟨v, vm₁, B, X₁.warmed, X', hpost, fun target h => hstep₁ _ fun acts => by rw [doInvoke_state]; exact hsteps.trans h⟩
abbrev vx_CVW (R : Room) (s : State) (args : Array Value) (own C : String) (index : Nat) (y : MethodName) (bytes : ByteArray) (maxL : Nat) (ret : Option FieldType) (hh : List (Nat × Nat × Nat × Nat)) (ws : List Cond) (rm : Room) (mc ms n : Nat) : Prop :=
  (rm.cells = mc ∧ rm.slots = ms ∧ rm.frames + 1 ≤ R.frames ∧ 8 + (maxL + 11) + rm.locals ≤ R.locals ∧ (∀ w ∈ ws, ∀ (a' : Array Value) (U : State), s.WarmedH U.vm → w.before a' U = true) ∧ Cond.codeWith y bytes maxL ret hh ∈ ws) ∧
  (Cond.codeWith y bytes maxL ret hh).before args s = true ∧ (Cond.initialized y.cls).before args s = true ∧ (y.cls ≠ "java/lang/invoke/MethodHandle" ∧ y.cls ≠ "java/lang/invoke/VarHandle") ∧
  (∀ sig, parseMethodDescriptor y.desc = some sig → n = sig.parameters.length) ∧ (Cond.methodLink own index y).before args s = true ∧ (Cond.instanceMethod y).before args s = true ∧ (Cond.selects C y y).before args s = true
theorem vx_cwVW {own C : String} {index maxL mc ms : Nat} {y : MethodName} {bytes : ByteArray} {ret : Option FieldType} {hh : List (Nat × Nat × Nat × Nat)} {Ts ws ws' : List Cond} {rm : Room} (n : Nat) (ht : ∀ w ∈ Ts, w.before args s = true) (hT : GoodIn Ts (wsV own index C y ws)) (hw : ws = Cond.codeWith y bytes maxL ret hh :: ws') (hrc : rm.cells = mc) (hrs : rm.slots = ms)
    (hd : y.cls = C ∧ y.cls ≠ "java/lang/invoke/MethodHandle" ∧ y.cls ≠ "java/lang/invoke/VarHandle" ∧ (parseMethodDescriptor y.desc).map (fun d => d.parameters.length) = some n) (hR : rm.frames + 1 ≤ R.frames ∧ 8 + (maxL + 11) + rm.locals ≤ R.locals) :
    vx_CVW R s args own C index y bytes maxL ret hh ws rm mc ms n := by
  obtain ⟨hC, hd⟩ := hd
  subst hC
  have ok : ∀ w ∈ wsV own index y.cls y ws, w.before args s = true := fun w h => ht w (hT w h).1
  have hG : GoodIn Ts ws := fun w h => hT w (by unfold wsV; exact List.mem_append_right _ h)
  have hc : Cond.codeWith y bytes maxL ret hh ∈ ws := by rw [hw]; exact List.mem_cons_self
  refine ⟨⟨hrc, hrs, hR.1, hR.2, pay_in ht hG, hc⟩, ht _ (hG _ hc).1, ok _ (by simp [wsV]), ⟨hd.1, hd.2.1⟩, fun sig h => ?_, ok _ (by simp [wsV]), ok _ (by simp [wsV]), ok _ (by simp [wsV])⟩
  have h2 := hd.2.2
  rw [h] at h2
  exact (Option.some.inj h2).symm
theorem vx_runVW {y : MethodName} {bytes cc : ByteArray} {maxL nL mc ms n index : Nat} {ret : Option FieldType} {hh : List (Nat × Nat × Nat × Nat)} {ws : List Cond} {rm : Room} {Pc : Array Value → State → Prop} {Qc : Array Value → State → Outcome → State → Prop} {free : Addr → Prop} {Ts : List Cond} {own C : String} {b : Addr} {As rest : List Value} {g : JFrame}
    (S : CallFix p m c cc nL s args Ts own) (hM : Met l y ws rm Pc Qc mc ms free) (cw : vx_CVW R s args own C index y bytes maxL ret hh ws rm mc ms n) (hp : PreV s H C b Pc As)
    (hg : g.method = m) (hn : As.length = n) (hsize : g.locals.size = nL) (hstack : g.stack = As.reverse ++ .ref b :: rest) (hW : 2 * g.monitorRoom + (rest.map fun v => v.category).sum ≤ 8) (hdg : decode cc g.pc = .ok (.invokevirtual index, 3)) (hf : cells + mc ≤ R.cells ∧ slots + ms ≤ R.slots) :
    va_Run p l e R s m args below meth c H locs cells slots mc ms g rest (Qc (Value.ref b :: As).toArray) free := by
  obtain ⟨⟨hrc, hrs, hfr, hlo, hws, hcw⟩, hcode, hini, hy, hlen, hl, hin, hse⟩ := cw
  have hK : Back l R p e below s args y 3 8 (PreOf R mc ms Pc) (PostOf Qc mc ms free) := va_backW (hh := hh) (bytes := bytes) (maxL := maxL) (ret := ret) hM hp.1 hrc hrs hfr hlo hws hcw (fun a' U hW => word_at hW (Or.inl (by first | rfl | simp [Cond.onTables, Cond.keeps, Cond.steady])) hini)
  obtain ⟨hx, hb, hml, ho, -⟩ := S
  obtain ⟨-, ⟨cellB, hcB, hoB, hclB⟩, hPc⟩ := hp
  intro T hT X
  obtain ⟨v, vm₁, ⟨U', l2, c2, s2⟩, hW₁, X', ⟨g', mk, t, L, e1, e2, hq, h1, hL, h2, h3⟩, st⟩ := vx_callVW X hx (C := C) (hh := hh) (bytes := bytes) (maxL := maxL) (ret := ret) ho hl hin hse hcode hy hK (by rw [hT]; exact hcB) hoB hclB hg (hsize.trans hml.symm) (argsL := As) (rest := rest) (fun sig h => hn.trans (hlen sig h)) hstack hW (by rw [hb]; exact hdg)
    (fun vm₁ hW₁ => ⟨hf.1, hf.2, hPc (T.setVm vm₁) hT hW₁⟩)
  dsimp only [Pt.U, Pt.locs, Pt.cells, Pt.slots] at X' e1 e2 h1 h2 h3 st
  subst h1; subst h2; subst h3
  exact ⟨v, (T.setVm vm₁).calling g' mk (Value.ref b :: As).toArray, t, U', L, hT, X', hL, e1, e2, hq, st⟩
section
variable {y : MethodName} {bytes cc : ByteArray} {maxL nL mc ms n index : Nat} {ret : Option FieldType} {ws : List Cond} {rm : Room} {Pc : Array Value → State → Prop} {Qc : Array Value → State → Outcome → State → Prop} {XC : String → State → State → Prop} {free : Addr → Prop} {Ts : List Cond} {own C : String} {b : Addr} {As rest : List Value} {g : JFrame}
theorem vx_runVX {hh : List (Nat × Nat × Nat × Nat)} (S : CallFix p m c cc nL s args Ts own) (hM : vx_Met l y ws rm Pc Qc XC mc ms free) (cw : vx_CVW R s args own C index y bytes maxL ret hh ws rm mc ms n) (hp : PreV s H C b Pc As)
    (hg : g.method = m) (hn : As.length = n) (hsize : g.locals.size = nL) (hstack : g.stack = As.reverse ++ .ref b :: rest) (hW : 2 * g.monitorRoom + (rest.map fun v => v.category).sum ≤ 8) (hdg : decode cc g.pc = .ok (.invokevirtual index, 3)) (hf : cells + mc ≤ R.cells ∧ slots + ms ≤ R.slots) :
    vx_Run p l e R s m args below meth c H locs cells slots mc ms g rest (Qc (Value.ref b :: As).toArray) XC free := by
  obtain ⟨⟨hrc, hrs, hfr, hlo, hws, hcw⟩, hcode, hini, hy, hlen, hl, hin, hse⟩ := cw
  have hK : vx_Back l R p e below s args y 3 8 (PreOf R mc ms Pc) (PostOf Qc mc ms free) (vx_Post XC mc ms free) := vx_backW (hh := hh) (bytes := bytes) (maxL := maxL) (ret := ret) hM hp.1 hrc hrs hfr hlo hws hcw (fun a' U hW => word_at hW (Or.inl (by first | rfl | simp [Cond.onTables, Cond.keeps, Cond.steady])) hini)
  obtain ⟨hx, hb, hml, ho, -⟩ := S
  obtain ⟨-, ⟨cellB, hcB, hoB, hclB⟩, hPc⟩ := hp
  intro T hT X
  rcases vx_callVX X hx (C := C) (hh := hh) (bytes := bytes) (maxL := maxL) (ret := ret) ho hl hin hse hcode hy hK (by rw [hT]; exact hcB) hoB hclB hg (hsize.trans hml.symm) (argsL := As) (rest := rest) (fun sig h => hn.trans (hlen sig h)) hstack hW (by rw [hb]; exact hdg)
    (fun vm₁ hW₁ => ⟨hf.1, hf.2, hPc (T.setVm vm₁) hT hW₁⟩) with ⟨v, vm₁, ⟨U', l2, c2, s2⟩, hW₁, X', ⟨g', mk, t, L, e1, e2, hq, h1, hL, h2, h3⟩, st⟩ | ⟨q, vm₁, ⟨U', l2, c2, s2⟩, hW₁, X', ⟨g', mk, t, L, E, ce, e1, e2, hq, hce, hcv, hcl, h1, hL, h2, h3⟩, st⟩
  · dsimp only [Pt.U, Pt.locs, Pt.cells, Pt.slots] at X' e1 e2 h1 h2 h3 st
    subst h1; subst h2; subst h3
    exact Or.inl ⟨v, (T.setVm vm₁).calling g' mk (Value.ref b :: As).toArray, t, U', L, hT, X', hL, e1, e2, hq, st⟩
  · dsimp only [Pt.U, Pt.locs, Pt.cells, Pt.slots] at X' e1 e2 h1 h2 h3 st hcl
    subst h1; subst h2; subst h3
    exact Or.inr ⟨q, (T.setVm vm₁).calling g' mk (Value.ref b :: As).toArray, t, U', L, E, ce, hT, X', hL, e1, e2, hq, hce, hcv, vx_cls hW₁ hcl, st⟩
theorem vx_runSX {hh : List (Nat × Nat × Nat × Nat)} (S : CallFix p m c cc nL s args Ts own) (hM : vx_Met l y ws rm Pc Qc XC mc ms free) (cw : vx_CSW R s args own index y bytes maxL ret hh ws rm mc ms n) (hp : PreS s H Pc As)
    (hg : g.method = m) (hn : As.length = n) (hsize : g.locals.size = nL) (hstack : g.stack = As.reverse ++ rest) (hW : 2 * g.monitorRoom + (rest.map fun v => v.category).sum ≤ 8) (hdg : decode cc g.pc = .ok (.invokestatic index, 3)) (hf : cells + mc ≤ R.cells ∧ slots + ms ≤ R.slots) :
    vx_Run p l e R s m args below meth c H locs cells slots mc ms g rest (Qc As.toArray) XC free := by
  obtain ⟨⟨hrc, hrs, hfr, hlo, hws, hcw⟩, hcode, hini, hy, hlen, hl, hstt⟩ := cw
  have hK : vx_Back l R p e below s args y 3 8 (PreOf R mc ms Pc) (PostOf Qc mc ms free) (vx_Post XC mc ms free) := vx_backW (hh := hh) (bytes := bytes) (maxL := maxL) (ret := ret) hM hp.1 hrc hrs hfr hlo hws hcw (fun a' U hW => word_at hW (Or.inl (by first | rfl | simp [Cond.onTables, Cond.keeps, Cond.steady])) hini)
  obtain ⟨hx, hb, hml, ho, -⟩ := S
  intro T hT X
  rcases vx_callSX X hx (hh := hh) (bytes := bytes) (maxL := maxL) (ret := ret) ho hl hstt hini hcode hy hK hg (hsize.trans hml.symm) (argsL := As) (rest := rest) (fun sig h => hn.trans (hlen sig h)) hstack hW (by rw [hb]; exact hdg)
    (fun vm₁ hW₁ => ⟨hf.1, hf.2, hp.2 (T.setVm vm₁) hT hW₁⟩) with ⟨v, vm₁, ⟨U', l2, c2, s2⟩, hW₁, X', ⟨g', mk, t, L, e1, e2, hq, h1, hL, h2, h3⟩, st⟩ | ⟨q, vm₁, ⟨U', l2, c2, s2⟩, hW₁, X', ⟨g', mk, t, L, E, ce, e1, e2, hq, hce, hcv, hcl, h1, hL, h2, h3⟩, st⟩
  · dsimp only [Pt.U, Pt.locs, Pt.cells, Pt.slots] at X' e1 e2 h1 h2 h3 st
    subst h1; subst h2; subst h3
    exact Or.inl ⟨v, (T.setVm vm₁).calling g' mk As.toArray, t, U', L, hT, X', hL, e1, e2, hq, st⟩
  · dsimp only [Pt.U, Pt.locs, Pt.cells, Pt.slots] at X' e1 e2 h1 h2 h3 st hcl
    subst h1; subst h2; subst h3
    exact Or.inr ⟨q, (T.setVm vm₁).calling g' mk As.toArray, t, U', L, E, ce, hT, X', hL, e1, e2, hq, hce, hcv, vx_cls hW₁ hcl, st⟩
end
end VXH
theorem vx_ofWH {l : Launch} {y : MethodName} {ws ws' : List Cond} {rm : Room} {Pc : Array Value → State → Prop} {Qc : Array Value → State → Outcome → State → Prop} {XC : String → State → State → Prop} {mc ms : Nat} {free : Addr → Prop} {cc : ByteArray} {maxL : Nat} {ret : Option FieldType} {hh : List (Nat × Nat × Nat × Nat)}
    (hy : plainName y.cls = true) (hw : ws = Cond.codeWith y cc maxL ret hh :: ws')
    (body : ∀ p e s m args below meth c s₁, BodyLoose p l y (headSpec ws rm) cc maxL ret e s m args below meth c s₁ → c.maxLocals = maxL → Pc args s →
      W p l e (headSpec ws rm).room s m args below meth c s.heap [] 0 0 (vx_MQ below Qc XC args s mc ms free) (entryFrame m args maxL)) : vx_Met l y ws rm Pc Qc XC mc ms free := by
  refine MetFree.of_bodyS (code := cc) (maxLocals := maxL) (ret := ret) hy ?_ ?_
  · intro args s m h hn
    obtain ⟨m9, meth, c, hn9, h1, h2, h3, h4, -, h5, h6, -⟩ := Cond.codeWith_spec (atoms_spec (ws := ws) h _ (by rw [hw]; exact List.mem_cons_self))
    cases hn.symm.trans hn9
    exact ⟨meth, c, h1, h2, h3, h4, h5, h6⟩
  · intro p e s m args below meth c s₁ B hml hP _
    have hh0 : s₁.heap = s.heap := by rw [B.state]; rfl
    obtain ⟨t, a1, o, b1, b2, b3⟩ := body p e s m args below meth c s₁ B hml hP s₁ hh0 (Stand.of_body B)
    exact ⟨t, o, a1, b1, b2, b3⟩
/-! ===== END ===== -/
end
section
/-! ===== BEGIN printed: names, fields, word lists, decode rows ===== -/
def RX0 : String := "QueueReader$Fit"
def TX0 : u_T := fun k => match k with
  | 0 => ("QueueReader$Fit", "size", "I", false)
  | 1 => ("QueueReader$Fit", "isWhole", "Z", false)
  | 2 => ("QueueReader$Fit", "came", "[I", true)
  | 3 => ("QueueReader$Fit", "begun", "[I", true)
  | 4 => ("QueueReader$Fit", "done", "[I", true)
  | 5 => ("QueueReader$Fit", "kinds", "[I", true)
  | _ => ("QueueReader$Fit", "ranks", "[J", true)
def tyX0 : Nat → FieldType := fun k => match k with
  | 0 => .int
  | 1 => .boolean
  | 2 => .array .int
  | 3 => .array .int
  | 4 => .array .int
  | 5 => .array .int
  | _ => .array .long
abbrev wsX00 : List Cond := u_ws RX0 TX0 7
theorem nmX0 : ∀ a, a < 7 → ∀ b, b < 7 → a ≠ b → (TX0 a).2.1 ≠ (TX0 b).2.1 := by decide +kernel
theorem tyX0_ok : ∀ k, k < 7 → parseFieldDescriptor (TX0 k).2.2.1 = some (tyX0 k) := by decide +kernel
abbrev cX0_init : ByteArray := prog_2_method_1_code
def yX0_init : MethodName := ⟨RX0, "<init>", "()V"⟩
abbrev cX0_gather : ByteArray := prog_2_method_2_code
def yX0_gather : MethodName := ⟨RX0, "gather", "(LQueueReader$Net;LQueueReader$Tracks;I)V"⟩
abbrev cX0_mostAtOnce : ByteArray := prog_2_method_3_code
def yX0_mostAtOnce : MethodName := ⟨RX0, "mostAtOnce", "()I"⟩
abbrev cX0_leastHelpers : ByteArray := prog_2_method_4_code
def yX0_leastHelpers : MethodName := ⟨RX0, "leastHelpers", "()I"⟩
abbrev cX0_firstRule : ByteArray := prog_2_method_5_code
def yX0_firstRule : MethodName := ⟨RX0, "firstRule", "()I"⟩
abbrev cX0_isPossible : ByteArray := prog_2_method_6_code
def yX0_isPossible : MethodName := ⟨RX0, "isPossible", "(I)Z"⟩
abbrev cX0_isIdleAt : ByteArray := prog_2_method_7_code
def yX0_isIdleAt : MethodName := ⟨RX0, "isIdleAt", "(II)Z"⟩
abbrev cX0_isLeftAt : ByteArray := prog_2_method_8_code
def yX0_isLeftAt : MethodName := ⟨RX0, "isLeftAt", "(II)Z"⟩
abbrev cX0_helpedAt : ByteArray := prog_2_method_9_code
def yX0_helpedAt : MethodName := ⟨RX0, "helpedAt", "(I)I"⟩
abbrev cX0_isOrderedBy : ByteArray := prog_2_method_10_code
def yX0_isOrderedBy : MethodName := ⟨RX0, "isOrderedBy", "(I)Z"⟩
abbrev cX0_isAhead : ByteArray := prog_2_method_11_code
def yX0_isAhead : MethodName := ⟨RX0, "isAhead", "(II)Z"⟩
def RX1 : String := "QueueReader$Net"
def TX1 : u_T := fun k => match k with
  | 0 => ("QueueReader$Net", "places", "I", false)
  | 1 => ("QueueReader$Net", "asks", "I", false)
  | 2 => ("QueueReader$Net", "steps", "I", false)
  | 3 => ("QueueReader$Net", "helpers", "[I", true)
  | 4 => ("QueueReader$Net", "rules", "[I", true)
  | 5 => ("QueueReader$Net", "delays", "[I", true)
  | 6 => ("QueueReader$Net", "kinds", "[I", true)
  | 7 => ("QueueReader$Net", "starts", "[I", true)
  | 8 => ("QueueReader$Net", "lengths", "[I", true)
  | 9 => ("QueueReader$Net", "stepPlaces", "[I", true)
  | _ => ("QueueReader$Net", "stepWorks", "[I", true)
def tyX1 : Nat → FieldType := fun k => match k with
  | 0 => .int
  | 1 => .int
  | 2 => .int
  | 3 => .array .int
  | 4 => .array .int
  | 5 => .array .int
  | 6 => .array .int
  | 7 => .array .int
  | 8 => .array .int
  | 9 => .array .int
  | _ => .array .int
abbrev wsX10 : List Cond := u_ws RX1 TX1 11
theorem nmX1 : ∀ a, a < 11 → ∀ b, b < 11 → a ≠ b → (TX1 a).2.1 ≠ (TX1 b).2.1 := by decide +kernel
theorem tyX1_ok : ∀ k, k < 11 → parseFieldDescriptor (TX1 k).2.2.1 = some (tyX1 k) := by decide +kernel
abbrev cX1_init : ByteArray := prog_3_method_1_code
def yX1_init : MethodName := ⟨RX1, "<init>", "()V"⟩
abbrev cX1_setPlace : ByteArray := prog_3_method_2_code
def yX1_setPlace : MethodName := ⟨RX1, "setPlace", "(IIII)V"⟩
abbrev cX1_addStep : ByteArray := prog_3_method_3_code
def yX1_addStep : MethodName := ⟨RX1, "addStep", "(III)I"⟩
abbrev cX1_rowsEnd : ByteArray := prog_3_method_4_code
def yX1_rowsEnd : MethodName := ⟨RX1, "rowsEnd", "()I"⟩
abbrev cX1_firstRow : ByteArray := prog_3_method_5_code
def yX1_firstRow : MethodName := ⟨RX1, "firstRow", "(I)I"⟩
abbrev cX1_lastRow : ByteArray := prog_3_method_6_code
def yX1_lastRow : MethodName := ⟨RX1, "lastRow", "(I)I"⟩
abbrev cX1_isStep : ByteArray := prog_3_method_7_code
def yX1_isStep : MethodName := ⟨RX1, "isStep", "(I)Z"⟩
def RX2 : String := "QueueReader$Play"
def TX2 : u_T := fun k => match k with
  | 0 => ("QueueReader$Play", "came", "[I", true)
  | 1 => ("QueueReader$Play", "begun", "[I", true)
  | 2 => ("QueueReader$Play", "done", "[I", true)
  | 3 => ("QueueReader$Play", "states", "[I", true)
  | 4 => ("QueueReader$Play", "rows", "[I", true)
  | 5 => ("QueueReader$Play", "dues", "[I", true)
  | 6 => ("QueueReader$Play", "free", "[I", true)
  | _ => ("QueueReader$Play", "waiting", "[I", true)
def tyX2 : Nat → FieldType := fun k => match k with
  | 0 => .array .int
  | 1 => .array .int
  | 2 => .array .int
  | 3 => .array .int
  | 4 => .array .int
  | 5 => .array .int
  | 6 => .array .int
  | _ => .array .int
abbrev wsX20 : List Cond := u_ws RX2 TX2 8
theorem nmX2 : ∀ a, a < 8 → ∀ b, b < 8 → a ≠ b → (TX2 a).2.1 ≠ (TX2 b).2.1 := by decide +kernel
theorem tyX2_ok : ∀ k, k < 8 → parseFieldDescriptor (TX2 k).2.2.1 = some (tyX2 k) := by decide +kernel
abbrev cX2_init : ByteArray := prog_4_method_1_code
def yX2_init : MethodName := ⟨RX2, "<init>", "()V"⟩
abbrev cX2_run : ByteArray := prog_4_method_2_code
def yX2_run : MethodName := ⟨RX2, "run", "(LQueueReader$Net;I)V"⟩
abbrev cX2_sumOfTimes : ByteArray := prog_4_method_3_code
def yX2_sumOfTimes : MethodName := ⟨RX2, "sumOfTimes", "(LQueueReader$Net;)J"⟩
abbrev cX2_end : ByteArray := prog_4_method_4_code
def yX2_end : MethodName := ⟨RX2, "end", "(LQueueReader$Net;)I"⟩
abbrev cX2_open : ByteArray := prog_4_method_5_code
def yX2_open : MethodName := ⟨RX2, "open", "(LQueueReader$Net;I)V"⟩
abbrev cX2_nextTick : ByteArray := prog_4_method_6_code
def yX2_nextTick : MethodName := ⟨RX2, "nextTick", "(LQueueReader$Net;)I"⟩
abbrev cX2_advance : ByteArray := prog_4_method_7_code
def yX2_advance : MethodName := ⟨RX2, "advance", "(LQueueReader$Net;I)V"⟩
abbrev cX2_finish : ByteArray := prog_4_method_8_code
def yX2_finish : MethodName := ⟨RX2, "finish", "(LQueueReader$Net;II)V"⟩
abbrev cX2_arrive : ByteArray := prog_4_method_9_code
def yX2_arrive : MethodName := ⟨RX2, "arrive", "(LQueueReader$Net;II)V"⟩
abbrev cX2_beginAt : ByteArray := prog_4_method_10_code
def yX2_beginAt : MethodName := ⟨RX2, "beginAt", "(LQueueReader$Net;II)V"⟩
abbrev cX2_firstWaiting : ByteArray := prog_4_method_11_code
def yX2_firstWaiting : MethodName := ⟨RX2, "firstWaiting", "(LQueueReader$Net;I)I"⟩
def RX3 : String := "QueueReader$Tracks"
def TX3 : u_T := fun k => match k with
  | 0 => ("QueueReader$Tracks", "isSeen", "[Z", true)
  | 1 => ("QueueReader$Tracks", "begun", "[I", true)
  | _ => ("QueueReader$Tracks", "done", "[I", true)
def tyX3 : Nat → FieldType := fun k => match k with
  | 0 => .array .boolean
  | 1 => .array .int
  | _ => .array .int
abbrev wsX30 : List Cond := u_ws RX3 TX3 3
theorem nmX3 : ∀ a, a < 3 → ∀ b, b < 3 → a ≠ b → (TX3 a).2.1 ≠ (TX3 b).2.1 := by decide +kernel
theorem tyX3_ok : ∀ k, k < 3 → parseFieldDescriptor (TX3 k).2.2.1 = some (tyX3 k) := by decide +kernel
abbrev cX3_init : ByteArray := prog_5_method_1_code
def yX3_init : MethodName := ⟨RX3, "<init>", "()V"⟩
abbrev cX3_tell : ByteArray := prog_5_method_2_code
def yX3_tell : MethodName := ⟨RX3, "tell", "(III)V"⟩
abbrev cX3_size : ByteArray := prog_5_method_3_code
def yX3_size : MethodName := ⟨RX3, "size", "(LQueueReader$Net;)I"⟩
abbrev cX3_cameOf : ByteArray := prog_5_method_4_code
def yX3_cameOf : MethodName := ⟨RX3, "cameOf", "(LQueueReader$Net;I)I"⟩
def RX4 : String := "QueueReader"
def TX4 : u_T := fun k => match k with
  | 0 => ("QueueReader", "net", "LQueueReader$Net;", true)
  | 1 => ("QueueReader", "told", "LQueueReader$Tracks;", true)
  | 2 => ("QueueReader", "fit", "LQueueReader$Fit;", true)
  | 3 => ("QueueReader", "play", "LQueueReader$Play;", true)
  | 4 => ("QueueReader", "trial", "LQueueReader$Play;", true)
  | _ => ("QueueReader", "isPlayFresh", "Z", false)
def tyX4 : Nat → FieldType := fun k => match k with
  | 0 => .object "QueueReader$Net"
  | 1 => .object "QueueReader$Tracks"
  | 2 => .object "QueueReader$Fit"
  | 3 => .object "QueueReader$Play"
  | 4 => .object "QueueReader$Play"
  | _ => .boolean
abbrev wsX40 : List Cond := u_ws RX4 TX4 6
theorem nmX4 : ∀ a, a < 6 → ∀ b, b < 6 → a ≠ b → (TX4 a).2.1 ≠ (TX4 b).2.1 := by decide +kernel
theorem tyX4_ok : ∀ k, k < 6 → parseFieldDescriptor (TX4 k).2.2.1 = some (tyX4 k) := by decide +kernel
abbrev cX4_init : ByteArray := prog_1_method_1_code
def yX4_init : MethodName := ⟨RX4, "<init>", "()V"⟩
abbrev cX4_place : ByteArray := prog_1_method_2_code
def yX4_place : MethodName := ⟨RX4, "place", "(III)I"⟩
abbrev cX4_change : ByteArray := prog_1_method_3_code
def yX4_change : MethodName := ⟨RX4, "change", "(IIII)V"⟩
abbrev cX4_ask : ByteArray := prog_1_method_4_code
def yX4_ask : MethodName := ⟨RX4, "ask", "(IIII)I"⟩
abbrev cX4_step : ByteArray := prog_1_method_5_code
def yX4_step : MethodName := ⟨RX4, "step", "(III)I"⟩
abbrev cX4_seen : ByteArray := prog_1_method_6_code
def yX4_seen : MethodName := ⟨RX4, "seen", "(IIII)V"⟩
abbrev cX4_unsee : ByteArray := prog_1_method_7_code
def yX4_unsee : MethodName := ⟨RX4, "unsee", "(II)Z"⟩
abbrev cX4_played : ByteArray := prog_1_method_8_code
def yX4_played : MethodName := ⟨RX4, "played", "(III)I"⟩
abbrev cX4_trace : ByteArray := prog_1_method_9_code
def yX4_trace : MethodName := ⟨RX4, "trace", "()I"⟩
abbrev cX4_unlike : ByteArray := prog_1_method_10_code
def yX4_unlike : MethodName := ⟨RX4, "unlike", "()I"⟩
abbrev cX4_found : ByteArray := prog_1_method_11_code
def yX4_found : MethodName := ⟨RX4, "found", "(IZ)I"⟩
abbrev cX4_overlap : ByteArray := prog_1_method_12_code
def yX4_overlap : MethodName := ⟨RX4, "overlap", "(I)I"⟩
abbrev cX4_counts : ByteArray := prog_1_method_13_code
def yX4_counts : MethodName := ⟨RX4, "counts", "(IZIII)J"⟩
abbrev cX4_total : ByteArray := prog_1_method_14_code
def yX4_total : MethodName := ⟨RX4, "total", "()J"⟩
abbrev cX4_saved : ByteArray := prog_1_method_15_code
def yX4_saved : MethodName := ⟨RX4, "saved", "(I)J"⟩
abbrev cX4_narrow : ByteArray := prog_1_method_16_code
def yX4_narrow : MethodName := ⟨RX4, "narrow", "()I"⟩
abbrev cX4_alone : ByteArray := prog_1_method_17_code
def yX4_alone : MethodName := ⟨RX4, "alone", "(I)I"⟩
abbrev cX4_count : ByteArray := prog_1_method_18_code
def yX4_count : MethodName := ⟨RX4, "count", "(I)I"⟩
abbrev cX4_countsByPlay : ByteArray := prog_1_method_19_code
def yX4_countsByPlay : MethodName := ⟨RX4, "countsByPlay", "(IIII)J"⟩
abbrev cX4_countsByTracks : ByteArray := prog_1_method_20_code
def yX4_countsByTracks : MethodName := ⟨RX4, "countsByTracks", "(IIII)J"⟩
abbrev cX4_share : ByteArray := prog_1_method_21_code
def yX4_share : MethodName := ⟨RX4, "share", "(IIIIII)I"⟩
abbrev cX4_ticksShared : ByteArray := prog_1_method_22_code
def yX4_ticksShared : MethodName := ⟨RX4, "ticksShared", "(IIII)I"⟩
abbrev cX4_gainAt : ByteArray := prog_1_method_23_code
def yX4_gainAt : MethodName := ⟨RX4, "gainAt", "(I)J"⟩
abbrev cX4_refreshPlay : ByteArray := prog_1_method_24_code
def yX4_refreshPlay : MethodName := ⟨RX4, "refreshPlay", "()V"⟩
abbrev cX4_needPlace : ByteArray := prog_1_method_25_code
def yX4_needPlace : MethodName := ⟨RX4, "needPlace", "(I)V"⟩
abbrev cX4_needAsk : ByteArray := prog_1_method_26_code
def yX4_needAsk : MethodName := ⟨RX4, "needAsk", "(I)V"⟩
abbrev cX4_needStep : ByteArray := prog_1_method_27_code
def yX4_needStep : MethodName := ⟨RX4, "needStep", "(II)I"⟩
abbrev cX4_needPlaceNumbers : ByteArray := prog_1_method_28_code
def yX4_needPlaceNumbers : MethodName := ⟨RX4, "needPlaceNumbers", "(III)V"⟩
abbrev cX4_needWithin : ByteArray := prog_1_method_29_code
def yX4_needWithin : MethodName := ⟨RX4, "needWithin", "(III)V"⟩
abbrev cX4_needWhat : ByteArray := prog_1_method_30_code
def yX4_needWhat : MethodName := ⟨RX4, "needWhat", "(II)V"⟩
abbrev cX4_rank : ByteArray := prog_1_method_31_code
def yX4_rank : MethodName := ⟨RX4, "rank", "(IIII)J"⟩
def RX5 : String := "QueueReaderModel"
def TX5 : u_T := fun k => match k with
  | 0 => ("QueueReaderModel", "thrown", "I", false)
  | 1 => ("QueueReaderModel", "helpers", "[I", true)
  | 2 => ("QueueReaderModel", "rule", "[I", true)
  | 3 => ("QueueReaderModel", "delay", "[I", true)
  | 4 => ("QueueReaderModel", "places", "I", false)
  | 5 => ("QueueReaderModel", "kind", "[I", true)
  | 6 => ("QueueReaderModel", "start", "[I", true)
  | 7 => ("QueueReaderModel", "steps", "[I", true)
  | 8 => ("QueueReaderModel", "asks", "I", false)
  | 9 => ("QueueReaderModel", "at", "[I", true)
  | 10 => ("QueueReaderModel", "work", "[I", true)
  | 11 => ("QueueReaderModel", "isSeen", "[Z", true)
  | 12 => ("QueueReaderModel", "seenBegun", "[I", true)
  | 13 => ("QueueReaderModel", "seenDone", "[I", true)
  | 14 => ("QueueReaderModel", "came", "[I", true)
  | 15 => ("QueueReaderModel", "begun", "[I", true)
  | 16 => ("QueueReaderModel", "done", "[I", true)
  | 17 => ("QueueReaderModel", "waits", "[Z", true)
  | _ => ("QueueReaderModel", "pWork", "[I", true)
def tyX5 : Nat → FieldType := fun k => match k with
  | 0 => .int
  | 1 => .array .int
  | 2 => .array .int
  | 3 => .array .int
  | 4 => .int
  | 5 => .array .int
  | 6 => .array .int
  | 7 => .array .int
  | 8 => .int
  | 9 => .array .int
  | 10 => .array .int
  | 11 => .array .boolean
  | 12 => .array .int
  | 13 => .array .int
  | 14 => .array .int
  | 15 => .array .int
  | 16 => .array .int
  | 17 => .array .boolean
  | _ => .array .int
abbrev wsX50 : List Cond := u_ws RX5 TX5 19
theorem nmX5 : ∀ a, a < 19 → ∀ b, b < 19 → a ≠ b → (TX5 a).2.1 ≠ (TX5 b).2.1 := by decide +kernel
theorem tyX5_ok : ∀ k, k < 19 → parseFieldDescriptor (TX5 k).2.2.1 = some (tyX5 k) := by decide +kernel
abbrev cX5_init : ByteArray := prog_7_method_1_code
def yX5_init : MethodName := ⟨RX5, "<init>", "()V"⟩
abbrev cX5_thrown : ByteArray := prog_7_method_2_code
def yX5_thrown : MethodName := ⟨RX5, "thrown", "()I"⟩
abbrev cX5_throwsIf : ByteArray := prog_7_method_3_code
def yX5_throwsIf : MethodName := ⟨RX5, "throwsIf", "(ZI)Z"⟩
abbrev cX5_in : ByteArray := prog_7_method_4_code
def yX5_in : MethodName := ⟨RX5, "in", "(III)Z"⟩
abbrev cX5_noPlace : ByteArray := prog_7_method_5_code
def yX5_noPlace : MethodName := ⟨RX5, "noPlace", "(I)Z"⟩
abbrev cX5_noAsk : ByteArray := prog_7_method_6_code
def yX5_noAsk : MethodName := ⟨RX5, "noAsk", "(I)Z"⟩
abbrev cX5_noStep : ByteArray := prog_7_method_7_code
def yX5_noStep : MethodName := ⟨RX5, "noStep", "(II)Z"⟩
abbrev cX5_isPlace : ByteArray := prog_7_method_8_code
def yX5_isPlace : MethodName := ⟨RX5, "isPlace", "(III)Z"⟩
abbrev cX5_place : ByteArray := prog_7_method_9_code
def yX5_place : MethodName := ⟨RX5, "place", "(III)I"⟩
abbrev cX5_change : ByteArray := prog_7_method_10_code
def yX5_change : MethodName := ⟨RX5, "change", "(IIII)V"⟩
abbrev cX5_ask : ByteArray := prog_7_method_11_code
def yX5_ask : MethodName := ⟨RX5, "ask", "(IIII)I"⟩
abbrev cX5_step : ByteArray := prog_7_method_12_code
def yX5_step : MethodName := ⟨RX5, "step", "(III)I"⟩
abbrev cX5_seen : ByteArray := prog_7_method_13_code
def yX5_seen : MethodName := ⟨RX5, "seen", "(IIII)V"⟩
abbrev cX5_unsee : ByteArray := prog_7_method_14_code
def yX5_unsee : MethodName := ⟨RX5, "unsee", "(II)Z"⟩
abbrev cX5_isAhead : ByteArray := prog_7_method_15_code
def yX5_isAhead : MethodName := ⟨RX5, "isAhead", "(III)Z"⟩
abbrev cX5_next : ByteArray := prog_7_method_16_code
def yX5_next : MethodName := ⟨RX5, "next", "(II)I"⟩
abbrev cX5_busy : ByteArray := prog_7_method_17_code
def yX5_busy : MethodName := ⟨RX5, "busy", "(II)I"⟩
abbrev cX5_begins : ByteArray := prog_7_method_18_code
def yX5_begins : MethodName := ⟨RX5, "begins", "(IIII)V"⟩
abbrev cX5_forgets : ByteArray := prog_7_method_19_code
def yX5_forgets : MethodName := ⟨RX5, "forgets", "()V"⟩
abbrev cX5_plays : ByteArray := prog_7_method_20_code
def yX5_plays : MethodName := ⟨RX5, "plays", "(I)I"⟩
abbrev cX5_played : ByteArray := prog_7_method_21_code
def yX5_played : MethodName := ⟨RX5, "played", "(III)I"⟩
abbrev cX5_stepsOfAll : ByteArray := prog_7_method_22_code
def yX5_stepsOfAll : MethodName := ⟨RX5, "stepsOfAll", "()I"⟩
abbrev cX5_isStep : ByteArray := prog_7_method_23_code
def yX5_isStep : MethodName := ⟨RX5, "isStep", "(I)Z"⟩
abbrev cX5_trace : ByteArray := prog_7_method_24_code
def yX5_trace : MethodName := ⟨RX5, "trace", "()I"⟩
abbrev cX5_unlike : ByteArray := prog_7_method_25_code
def yX5_unlike : MethodName := ⟨RX5, "unlike", "()I"⟩
abbrev cX5_seenCame : ByteArray := prog_7_method_26_code
def yX5_seenCame : MethodName := ⟨RX5, "seenCame", "(I)I"⟩
abbrev cX5_isWhole : ByteArray := prog_7_method_27_code
def yX5_isWhole : MethodName := ⟨RX5, "isWhole", "(I)Z"⟩
abbrev cX5_agrees : ByteArray := prog_7_method_28_code
def yX5_agrees : MethodName := ⟨RX5, "agrees", "(III)Z"⟩
abbrev cX5_found : ByteArray := prog_7_method_29_code
def yX5_found : MethodName := ⟨RX5, "found", "(IZ)I"⟩
abbrev cX5_overlap : ByteArray := prog_7_method_30_code
def yX5_overlap : MethodName := ⟨RX5, "overlap", "(I)I"⟩
abbrev cX5_common : ByteArray := prog_7_method_31_code
def yX5_common : MethodName := ⟨RX5, "common", "(IIII)J"⟩
abbrev cX5_counts : ByteArray := prog_7_method_32_code
def yX5_counts : MethodName := ⟨RX5, "counts", "(IZIII)J"⟩
abbrev cX5_totalWith : ByteArray := prog_7_method_33_code
def yX5_totalWith : MethodName := ⟨RX5, "totalWith", "(I)J"⟩
abbrev cX5_total : ByteArray := prog_7_method_34_code
def yX5_total : MethodName := ⟨RX5, "total", "()J"⟩
abbrev cX5_saved : ByteArray := prog_7_method_35_code
def yX5_saved : MethodName := ⟨RX5, "saved", "(I)J"⟩
abbrev cX5_narrow : ByteArray := prog_7_method_36_code
def yX5_narrow : MethodName := ⟨RX5, "narrow", "()I"⟩
abbrev cX5_alone : ByteArray := prog_7_method_37_code
def yX5_alone : MethodName := ⟨RX5, "alone", "(I)I"⟩
abbrev cX5_count : ByteArray := prog_7_method_38_code
def yX5_count : MethodName := ⟨RX5, "count", "(I)I"⟩
def RJ9 : String := "java/lang/Math"
def TJ9 : u_T := fun k => match k with
  | _ => ("", "", "", false)
def tyJ9 : Nat → FieldType := fun k => match k with
  | _ => .int
abbrev wsJ90 : List Cond := u_ws RJ9 TJ9 0
theorem nmJ9 : ∀ a, a < 0 → ∀ b, b < 0 → a ≠ b → (TJ9 a).2.1 ≠ (TJ9 b).2.1 := by decide +kernel
theorem tyJ9_ok : ∀ k, k < 0 → parseFieldDescriptor (TJ9 k).2.2.1 = some (tyJ9 k) := by decide +kernel
abbrev cJ9_max_7cf53 : ByteArray := prog_11_method_65_code
def yJ9_max_7cf53 : MethodName := ⟨RJ9, "max", "(II)I"⟩
abbrev cJ9_max_f86c9 : ByteArray := prog_11_method_66_code
def yJ9_max_f86c9 : MethodName := ⟨RJ9, "max", "(JJ)J"⟩
abbrev cJ9_min_7cf53 : ByteArray := prog_11_method_69_code
def yJ9_min_7cf53 : MethodName := ⟨RJ9, "min", "(II)I"⟩
def RJ0 : String := "java/lang/String"
def TJ0 : u_T := fun k => match k with
  | _ => ("", "", "", false)
def tyJ0 : Nat → FieldType := fun k => match k with
  | _ => .int
abbrev wsJ00 : List Cond := u_ws RJ0 TJ0 0
theorem nmJ0 : ∀ a, a < 0 → ∀ b, b < 0 → a ≠ b → (TJ0 a).2.1 ≠ (TJ0 b).2.1 := by decide +kernel
theorem tyJ0_ok : ∀ k, k < 0 → parseFieldDescriptor (TJ0 k).2.2.1 = some (tyJ0 k) := by decide +kernel
def RJ7 : String := "java/util/Arrays"
def TJ7 : u_T := fun k => match k with
  | _ => ("", "", "", false)
def tyJ7 : Nat → FieldType := fun k => match k with
  | _ => .int
abbrev wsJ70 : List Cond := u_ws RJ7 TJ7 0
theorem nmJ7 : ∀ a, a < 0 → ∀ b, b < 0 → a ≠ b → (TJ7 a).2.1 ≠ (TJ7 b).2.1 := by decide +kernel
theorem tyJ7_ok : ∀ k, k < 0 → parseFieldDescriptor (TJ7 k).2.2.1 = some (tyJ7 k) := by decide +kernel
abbrev cJ7_fill_53178 : ByteArray := prog_16_method_103_code
def yJ7_fill_53178 : MethodName := ⟨RJ7, "fill", "([II)V"⟩
def RL : String := "QueueReaderLaw"
abbrev cL_place : ByteArray := method_3_code
def yL_place : MethodName := ⟨RL, "place", "(LQueueReader;III[J)I"⟩
abbrev cL_change : ByteArray := method_4_code
def yL_change : MethodName := ⟨RL, "change", "(LQueueReader;IIII)I"⟩
abbrev cL_ask : ByteArray := method_5_code
def yL_ask : MethodName := ⟨RL, "ask", "(LQueueReader;IIII[J)I"⟩
abbrev cL_step : ByteArray := method_6_code
def yL_step : MethodName := ⟨RL, "step", "(LQueueReader;III[J)I"⟩
abbrev cL_seen : ByteArray := method_7_code
def yL_seen : MethodName := ⟨RL, "seen", "(LQueueReader;IIII)I"⟩
abbrev cL_unsee : ByteArray := method_8_code
def yL_unsee : MethodName := ⟨RL, "unsee", "(LQueueReader;II[J)I"⟩
abbrev cL_played : ByteArray := method_9_code
def yL_played : MethodName := ⟨RL, "played", "(LQueueReader;III[J)I"⟩
abbrev cL_found : ByteArray := method_10_code
def yL_found : MethodName := ⟨RL, "found", "(LQueueReader;IZ[J)I"⟩
abbrev cL_overlap : ByteArray := method_11_code
def yL_overlap : MethodName := ⟨RL, "overlap", "(LQueueReader;I[J)I"⟩
abbrev cL_counts : ByteArray := method_12_code
def yL_counts : MethodName := ⟨RL, "counts", "(LQueueReader;IZIII[J)I"⟩
abbrev cL_saved : ByteArray := method_13_code
def yL_saved : MethodName := ⟨RL, "saved", "(LQueueReader;I[J)I"⟩
abbrev cL_alone : ByteArray := method_14_code
def yL_alone : MethodName := ⟨RL, "alone", "(LQueueReader;I[J)I"⟩
abbrev cL_law : ByteArray := code
def yL_law : MethodName := ⟨RL, "law", "([I)Z"⟩
def wsX0_init : List Cond := .code yX0_init cX0_init 1 none :: ([.methodLink RX0 3 objectInit, .instanceMethod objectInit, .code objectInit ⟨#[0xb1]⟩ 1 none, .fieldLink RX0 9 "QueueReader$Fit" "size" "I", .fieldLink RX0 15 "QueueReader$Fit" "isWhole" "Z", .arrayClass .int, .fieldLink RX0 19 "QueueReader$Fit" "came" "[I", .fieldLink RX0 23 "QueueReader$Fit" "begun" "[I", .fieldLink RX0 26 "QueueReader$Fit" "done" "[I", .fieldLink RX0 29 "QueueReader$Fit" "kinds" "[I", .arrayClass .long, .fieldLink RX0 32 "QueueReader$Fit" "ranks" "[J"] ++ wsX00)
def wsX1_rowsEnd : List Cond := .code yX1_rowsEnd cX1_rowsEnd 1 (some .int) :: ([.fieldLink RX1 15 "QueueReader$Net" "asks" "I"] ++ wsX10)
def wsX3_cameOf : List Cond := .code yX3_cameOf cX3_cameOf 4 (some .int) :: ([.fieldLink RX3 9 "QueueReader$Tracks" "isSeen" "[Z", .fieldLink RX3 28 "QueueReader$Net" "starts" "[I", .fieldLink RX3 19 "QueueReader$Tracks" "done" "[I", .fieldLink RX3 31 "QueueReader$Net" "delays" "[I", .fieldLink RX3 34 "QueueReader$Net" "stepPlaces" "[I"] ++ wsX30 ++ wsX10)
def wsX0_gather_r1 : List Cond := [Cond.fieldLink RX0 9 "QueueReader$Fit" "size" "I", Cond.fieldLink RX0 15 "QueueReader$Fit" "isWhole" "Z", Cond.fieldLink RX0 42 "QueueReader$Net" "stepPlaces" "[I", Cond.fieldLink RX0 51 "QueueReader$Tracks" "isSeen" "[Z", Cond.fieldLink RX0 19 "QueueReader$Fit" "came" "[I", Cond.fieldLink RX0 23 "QueueReader$Fit" "begun" "[I", Cond.fieldLink RX0 55 "QueueReader$Tracks" "begun" "[I", Cond.fieldLink RX0 26 "QueueReader$Fit" "done" "[I", Cond.fieldLink RX0 56 "QueueReader$Tracks" "done" "[I", Cond.fieldLink RX0 29 "QueueReader$Fit" "kinds" "[I", Cond.fieldLink RX0 57 "QueueReader$Net" "kinds" "[I", Cond.methodLink RX0 36 yX1_rowsEnd, Cond.instanceMethod yX1_rowsEnd, Cond.selects RX1 yX1_rowsEnd yX1_rowsEnd, Cond.initialized RX1, Cond.code yX1_rowsEnd cX1_rowsEnd 1 (some .int), Cond.fieldLink RX1 15 "QueueReader$Net" "asks" "I", Cond.methodLink RX0 45 yX3_cameOf, Cond.instanceMethod yX3_cameOf, Cond.selects RX3 yX3_cameOf yX3_cameOf, Cond.initialized RX3, Cond.code yX3_cameOf cX3_cameOf 4 (some .int), Cond.fieldLink RX3 9 "QueueReader$Tracks" "isSeen" "[Z", Cond.fieldLink RX3 28 "QueueReader$Net" "starts" "[I"]
def wsX0_gather_r2 : List Cond := [Cond.fieldLink RX3 19 "QueueReader$Tracks" "done" "[I", Cond.fieldLink RX3 31 "QueueReader$Net" "delays" "[I", Cond.fieldLink RX3 34 "QueueReader$Net" "stepPlaces" "[I"]
def wsX0_gather : List Cond := .code yX0_gather cX0_gather 6 none :: ((wsX0_gather_r1 ++ wsX0_gather_r2) ++ wsX00 ++ wsX10 ++ wsX30)
def wsX0_helpedAt : List Cond := .code yX0_helpedAt cX0_helpedAt 4 (some .int) :: ([.fieldLink RX0 9 "QueueReader$Fit" "size" "I", .fieldLink RX0 23 "QueueReader$Fit" "begun" "[I", .fieldLink RX0 26 "QueueReader$Fit" "done" "[I"] ++ wsX00)
def wsX0_mostAtOnce : List Cond := .code yX0_mostAtOnce cX0_mostAtOnce 3 (some .int) :: ([.fieldLink RX0 9 "QueueReader$Fit" "size" "I", .fieldLink RX0 23 "QueueReader$Fit" "begun" "[I", .methodLink RX0 62 Lib.Math.max.name, .static Lib.Math.max.name, .initialized "java/lang/Math", .code Lib.Math.max.name Lib.Math.max.code 2 (some .int), .methodLink RX0 58 yX0_helpedAt, .instanceMethod yX0_helpedAt, .selects RX0 yX0_helpedAt yX0_helpedAt, .initialized RX0, .code yX0_helpedAt cX0_helpedAt 4 (some .int), .fieldLink RX0 26 "QueueReader$Fit" "done" "[I"] ++ wsX00)
def wsX0_isLeftAt : List Cond := .code yX0_isLeftAt cX0_isLeftAt 3 (some .boolean) :: ([.fieldLink RX0 19 "QueueReader$Fit" "came" "[I", .fieldLink RX0 23 "QueueReader$Fit" "begun" "[I"] ++ wsX00)
def wsX0_isIdleAt : List Cond := .code yX0_isIdleAt cX0_isIdleAt 4 (some .boolean) :: ([.fieldLink RX0 9 "QueueReader$Fit" "size" "I", .methodLink RX0 85 yX0_isLeftAt, .instanceMethod yX0_isLeftAt, .selects RX0 yX0_isLeftAt yX0_isLeftAt, .initialized RX0, .code yX0_isLeftAt cX0_isLeftAt 3 (some .boolean), .fieldLink RX0 19 "QueueReader$Fit" "came" "[I", .fieldLink RX0 23 "QueueReader$Fit" "begun" "[I", .methodLink RX0 58 yX0_helpedAt, .instanceMethod yX0_helpedAt, .selects RX0 yX0_helpedAt yX0_helpedAt, .code yX0_helpedAt cX0_helpedAt 4 (some .int), .fieldLink RX0 26 "QueueReader$Fit" "done" "[I"] ++ wsX00)
def wsX0_isPossible : List Cond := .code yX0_isPossible cX0_isPossible 3 (some .boolean) :: ([.fieldLink RX0 9 "QueueReader$Fit" "size" "I", .fieldLink RX0 23 "QueueReader$Fit" "begun" "[I", .fieldLink RX0 19 "QueueReader$Fit" "came" "[I", .fieldLink RX0 26 "QueueReader$Fit" "done" "[I", .methodLink RX0 81 yX0_isIdleAt, .instanceMethod yX0_isIdleAt, .selects RX0 yX0_isIdleAt yX0_isIdleAt, .initialized RX0, .code yX0_isIdleAt cX0_isIdleAt 4 (some .boolean), .methodLink RX0 85 yX0_isLeftAt, .instanceMethod yX0_isLeftAt, .selects RX0 yX0_isLeftAt yX0_isLeftAt, .code yX0_isLeftAt cX0_isLeftAt 3 (some .boolean), .methodLink RX0 58 yX0_helpedAt, .instanceMethod yX0_helpedAt, .selects RX0 yX0_helpedAt yX0_helpedAt, .code yX0_helpedAt cX0_helpedAt 4 (some .int)] ++ wsX00)
def wsX4_rank : List Cond := .code yX4_rank cX4_rank 4 (some .long) :: ([.constantLong RX4 230 (1000000000)])
def wsX0_isAhead : List Cond := .code yX0_isAhead cX0_isAhead 3 (some .boolean) :: ([.fieldLink RX0 32 "QueueReader$Fit" "ranks" "[J"] ++ wsX00)
def wsX0_isOrderedBy : List Cond := .code yX0_isOrderedBy cX0_isOrderedBy 4 (some .boolean) :: ([.fieldLink RX0 9 "QueueReader$Fit" "size" "I", .fieldLink RX0 32 "QueueReader$Fit" "ranks" "[J", .fieldLink RX0 19 "QueueReader$Fit" "came" "[I", .fieldLink RX0 26 "QueueReader$Fit" "done" "[I", .fieldLink RX0 23 "QueueReader$Fit" "begun" "[I", .fieldLink RX0 29 "QueueReader$Fit" "kinds" "[I", .static yX4_rank, .initialized RX4, .code yX4_rank cX4_rank 4 (some .long), .constantLong RX4 230 (1000000000), .methodLink RX0 85 yX0_isLeftAt, .instanceMethod yX0_isLeftAt, .selects RX0 yX0_isLeftAt yX0_isLeftAt, .initialized RX0, .code yX0_isLeftAt cX0_isLeftAt 3 (some .boolean), .methodLink RX0 92 yX0_isAhead, .instanceMethod yX0_isAhead, .selects RX0 yX0_isAhead yX0_isAhead, .code yX0_isAhead cX0_isAhead 3 (some .boolean)] ++ wsX00)
def wsX0_firstRule_r1 : List Cond := [Cond.fieldLink RX0 15 "QueueReader$Fit" "isWhole" "Z", Cond.fieldLink RX0 9 "QueueReader$Fit" "size" "I", Cond.methodLink RX0 71 yX0_mostAtOnce, Cond.instanceMethod yX0_mostAtOnce, Cond.selects RX0 yX0_mostAtOnce yX0_mostAtOnce, Cond.initialized RX0, Cond.code yX0_mostAtOnce cX0_mostAtOnce 3 (some .int), Cond.fieldLink RX0 23 "QueueReader$Fit" "begun" "[I", Cond.methodLink RX0 62 Lib.Math.max.name, Cond.static Lib.Math.max.name, Cond.initialized "java/lang/Math", Cond.code Lib.Math.max.name Lib.Math.max.code 2 (some .int), Cond.methodLink RX0 58 yX0_helpedAt, Cond.instanceMethod yX0_helpedAt, Cond.selects RX0 yX0_helpedAt yX0_helpedAt, Cond.code yX0_helpedAt cX0_helpedAt 4 (some .int), Cond.fieldLink RX0 26 "QueueReader$Fit" "done" "[I", Cond.methodLink RX0 74 yX0_isPossible, Cond.instanceMethod yX0_isPossible, Cond.selects RX0 yX0_isPossible yX0_isPossible, Cond.code yX0_isPossible cX0_isPossible 3 (some .boolean), Cond.fieldLink RX0 19 "QueueReader$Fit" "came" "[I", Cond.methodLink RX0 81 yX0_isIdleAt, Cond.instanceMethod yX0_isIdleAt]
def wsX0_firstRule_r2 : List Cond := [Cond.selects RX0 yX0_isIdleAt yX0_isIdleAt, Cond.code yX0_isIdleAt cX0_isIdleAt 4 (some .boolean), Cond.methodLink RX0 85 yX0_isLeftAt, Cond.instanceMethod yX0_isLeftAt, Cond.selects RX0 yX0_isLeftAt yX0_isLeftAt, Cond.code yX0_isLeftAt cX0_isLeftAt 3 (some .boolean), Cond.methodLink RX0 78 yX0_isOrderedBy, Cond.instanceMethod yX0_isOrderedBy, Cond.selects RX0 yX0_isOrderedBy yX0_isOrderedBy, Cond.code yX0_isOrderedBy cX0_isOrderedBy 4 (some .boolean), Cond.fieldLink RX0 32 "QueueReader$Fit" "ranks" "[J", Cond.fieldLink RX0 29 "QueueReader$Fit" "kinds" "[I", Cond.static yX4_rank, Cond.initialized RX4, Cond.code yX4_rank cX4_rank 4 (some .long), Cond.constantLong RX4 230 (1000000000), Cond.methodLink RX0 92 yX0_isAhead, Cond.instanceMethod yX0_isAhead, Cond.selects RX0 yX0_isAhead yX0_isAhead, Cond.code yX0_isAhead cX0_isAhead 3 (some .boolean)]
def wsX0_firstRule : List Cond := .code yX0_firstRule cX0_firstRule 2 (some .int) :: ((wsX0_firstRule_r1 ++ wsX0_firstRule_r2) ++ wsX00)
def wsX0_leastHelpers_r1 : List Cond := [Cond.methodLink RX0 68 yX0_firstRule, Cond.instanceMethod yX0_firstRule, Cond.selects RX0 yX0_firstRule yX0_firstRule, Cond.initialized RX0, Cond.code yX0_firstRule cX0_firstRule 2 (some .int), Cond.fieldLink RX0 15 "QueueReader$Fit" "isWhole" "Z", Cond.fieldLink RX0 9 "QueueReader$Fit" "size" "I", Cond.methodLink RX0 71 yX0_mostAtOnce, Cond.instanceMethod yX0_mostAtOnce, Cond.selects RX0 yX0_mostAtOnce yX0_mostAtOnce, Cond.code yX0_mostAtOnce cX0_mostAtOnce 3 (some .int), Cond.fieldLink RX0 23 "QueueReader$Fit" "begun" "[I", Cond.methodLink RX0 62 Lib.Math.max.name, Cond.static Lib.Math.max.name, Cond.initialized "java/lang/Math", Cond.code Lib.Math.max.name Lib.Math.max.code 2 (some .int), Cond.methodLink RX0 58 yX0_helpedAt, Cond.instanceMethod yX0_helpedAt, Cond.selects RX0 yX0_helpedAt yX0_helpedAt, Cond.code yX0_helpedAt cX0_helpedAt 4 (some .int), Cond.fieldLink RX0 26 "QueueReader$Fit" "done" "[I", Cond.methodLink RX0 74 yX0_isPossible, Cond.instanceMethod yX0_isPossible, Cond.selects RX0 yX0_isPossible yX0_isPossible]
def wsX0_leastHelpers_r2 : List Cond := [Cond.code yX0_isPossible cX0_isPossible 3 (some .boolean), Cond.fieldLink RX0 19 "QueueReader$Fit" "came" "[I", Cond.methodLink RX0 81 yX0_isIdleAt, Cond.instanceMethod yX0_isIdleAt, Cond.selects RX0 yX0_isIdleAt yX0_isIdleAt, Cond.code yX0_isIdleAt cX0_isIdleAt 4 (some .boolean), Cond.methodLink RX0 85 yX0_isLeftAt, Cond.instanceMethod yX0_isLeftAt, Cond.selects RX0 yX0_isLeftAt yX0_isLeftAt, Cond.code yX0_isLeftAt cX0_isLeftAt 3 (some .boolean), Cond.methodLink RX0 78 yX0_isOrderedBy, Cond.instanceMethod yX0_isOrderedBy, Cond.selects RX0 yX0_isOrderedBy yX0_isOrderedBy, Cond.code yX0_isOrderedBy cX0_isOrderedBy 4 (some .boolean), Cond.fieldLink RX0 32 "QueueReader$Fit" "ranks" "[J", Cond.fieldLink RX0 29 "QueueReader$Fit" "kinds" "[I", Cond.static yX4_rank, Cond.initialized RX4, Cond.code yX4_rank cX4_rank 4 (some .long), Cond.constantLong RX4 230 (1000000000), Cond.methodLink RX0 92 yX0_isAhead, Cond.instanceMethod yX0_isAhead, Cond.selects RX0 yX0_isAhead yX0_isAhead, Cond.code yX0_isAhead cX0_isAhead 3 (some .boolean)]
def wsX0_leastHelpers : List Cond := .code yX0_leastHelpers cX0_leastHelpers 1 (some .int) :: ((wsX0_leastHelpers_r1 ++ wsX0_leastHelpers_r2) ++ wsX00)
def wsJ7_fill_53178 : List Cond := .code yJ7_fill_53178 cJ7_fill_53178 4 none :: ([])
def wsX1_init : List Cond := .code yX1_init cX1_init 1 none :: ([.methodLink RX1 3 objectInit, .instanceMethod objectInit, .code objectInit ⟨#[0xb1]⟩ 1 none, .fieldLink RX1 9 "QueueReader$Net" "places" "I", .fieldLink RX1 15 "QueueReader$Net" "asks" "I", .fieldLink RX1 18 "QueueReader$Net" "steps" "I", .arrayClass .int, .fieldLink RX1 21 "QueueReader$Net" "helpers" "[I", .fieldLink RX1 25 "QueueReader$Net" "rules" "[I", .fieldLink RX1 28 "QueueReader$Net" "delays" "[I", .fieldLink RX1 31 "QueueReader$Net" "kinds" "[I", .fieldLink RX1 34 "QueueReader$Net" "starts" "[I", .fieldLink RX1 37 "QueueReader$Net" "lengths" "[I", .fieldLink RX1 40 "QueueReader$Net" "stepPlaces" "[I", .fieldLink RX1 43 "QueueReader$Net" "stepWorks" "[I", .methodLink RX1 46 yJ7_fill_53178, .static yJ7_fill_53178, .initialized RJ7, .code yJ7_fill_53178 cJ7_fill_53178 4 none] ++ wsX10)
def wsX1_setPlace : List Cond := .code yX1_setPlace cX1_setPlace 5 none :: ([.fieldLink RX1 21 "QueueReader$Net" "helpers" "[I", .fieldLink RX1 25 "QueueReader$Net" "rules" "[I", .fieldLink RX1 28 "QueueReader$Net" "delays" "[I"] ++ wsX10)
def wsX1_firstRow : List Cond := .code yX1_firstRow cX1_firstRow 2 (some .int) :: ([])
def wsX1_addStep : List Cond := .code yX1_addStep cX1_addStep 6 (some .int) :: ([.fieldLink RX1 37 "QueueReader$Net" "lengths" "[I", .fieldLink RX1 40 "QueueReader$Net" "stepPlaces" "[I", .fieldLink RX1 43 "QueueReader$Net" "stepWorks" "[I", .fieldLink RX1 18 "QueueReader$Net" "steps" "I", .methodLink RX1 52 yX1_firstRow, .instanceMethod yX1_firstRow, .selects RX1 yX1_firstRow yX1_firstRow, .initialized RX1, .code yX1_firstRow cX1_firstRow 2 (some .int)] ++ wsX10)
def wsX1_lastRow : List Cond := .code yX1_lastRow cX1_lastRow 2 (some .int) :: ([.fieldLink RX1 37 "QueueReader$Net" "lengths" "[I", .methodLink RX1 52 yX1_firstRow, .instanceMethod yX1_firstRow, .selects RX1 yX1_firstRow yX1_firstRow, .initialized RX1, .code yX1_firstRow cX1_firstRow 2 (some .int)] ++ wsX10)
def wsX1_isStep : List Cond := .code yX1_isStep cX1_isStep 2 (some .boolean) :: ([.fieldLink RX1 40 "QueueReader$Net" "stepPlaces" "[I"] ++ wsX10)
def wsX2_init : List Cond := .code yX2_init cX2_init 1 none :: ([.methodLink RX2 3 objectInit, .instanceMethod objectInit, .code objectInit ⟨#[0xb1]⟩ 1 none, .arrayClass .int, .fieldLink RX2 9 "QueueReader$Play" "came" "[I", .fieldLink RX2 15 "QueueReader$Play" "begun" "[I", .fieldLink RX2 18 "QueueReader$Play" "done" "[I", .fieldLink RX2 21 "QueueReader$Play" "states" "[I", .fieldLink RX2 24 "QueueReader$Play" "rows" "[I", .fieldLink RX2 27 "QueueReader$Play" "dues" "[I", .fieldLink RX2 30 "QueueReader$Play" "free" "[I", .fieldLink RX2 33 "QueueReader$Play" "waiting" "[I"] ++ wsX20)
def wsX2_open : List Cond := .code yX2_open cX2_open 4 none :: ([.fieldLink RX2 48 "QueueReader$Net" "places" "I", .fieldLink RX2 30 "QueueReader$Play" "free" "[I", .fieldLink RX2 74 "QueueReader$Net" "helpers" "[I", .fieldLink RX2 33 "QueueReader$Play" "waiting" "[I", .fieldLink RX2 58 "QueueReader$Net" "asks" "I", .fieldLink RX2 21 "QueueReader$Play" "states" "[I", .fieldLink RX2 24 "QueueReader$Play" "rows" "[I", .fieldLink RX2 27 "QueueReader$Play" "dues" "[I", .fieldLink RX2 65 "QueueReader$Net" "starts" "[I", .methodLink RX2 77 yX1_firstRow, .instanceMethod yX1_firstRow, .selects RX1 yX1_firstRow yX1_firstRow, .initialized RX1, .code yX1_firstRow cX1_firstRow 2 (some .int)] ++ wsX10 ++ wsX20)
def wsX2_nextTick : List Cond := .code yX2_nextTick cX2_nextTick 4 (some .int) :: ([.constant RX2 44 (1000000000), .fieldLink RX2 58 "QueueReader$Net" "asks" "I", .fieldLink RX2 27 "QueueReader$Play" "dues" "[I", .methodLink RX2 80 Lib.Math.min.name, .static Lib.Math.min.name, .initialized "java/lang/Math", .code Lib.Math.min.name Lib.Math.min.code 2 (some .int)] ++ wsX10 ++ wsX20)
def wsX2_arrive : List Cond := .code yX2_arrive cX2_arrive 5 none :: ([.fieldLink RX2 24 "QueueReader$Play" "rows" "[I", .fieldLink RX2 9 "QueueReader$Play" "came" "[I", .fieldLink RX2 21 "QueueReader$Play" "states" "[I", .fieldLink RX2 27 "QueueReader$Play" "dues" "[I", .constant RX2 44 (1000000000), .fieldLink RX2 33 "QueueReader$Play" "waiting" "[I", .fieldLink RX2 89 "QueueReader$Net" "stepPlaces" "[I"] ++ wsX20 ++ wsX10)
def wsX2_finish : List Cond := .code yX2_finish cX2_finish 6 none :: ([.fieldLink RX2 24 "QueueReader$Play" "rows" "[I", .fieldLink RX2 89 "QueueReader$Net" "stepPlaces" "[I", .fieldLink RX2 30 "QueueReader$Play" "free" "[I", .fieldLink RX2 21 "QueueReader$Play" "states" "[I", .fieldLink RX2 27 "QueueReader$Play" "dues" "[I", .constant RX2 44 (1000000000), .fieldLink RX2 92 "QueueReader$Net" "delays" "[I", .methodLink RX2 61 yX1_lastRow, .instanceMethod yX1_lastRow, .selects RX1 yX1_lastRow yX1_lastRow, .initialized RX1, .code yX1_lastRow cX1_lastRow 2 (some .int), .fieldLink RX1 37 "QueueReader$Net" "lengths" "[I", .methodLink RX1 52 yX1_firstRow, .instanceMethod yX1_firstRow, .selects RX1 yX1_firstRow yX1_firstRow, .code yX1_firstRow cX1_firstRow 2 (some .int), .methodLink RX2 86 yX2_arrive, .instanceMethod yX2_arrive, .selects RX2 yX2_arrive yX2_arrive, .initialized RX2, .code yX2_arrive cX2_arrive 5 none, .fieldLink RX2 9 "QueueReader$Play" "came" "[I", .fieldLink RX2 33 "QueueReader$Play" "waiting" "[I"] ++ wsX20 ++ wsX10)
def wsX2_advance_r1 : List Cond := [Cond.fieldLink RX2 58 "QueueReader$Net" "asks" "I", Cond.fieldLink RX2 27 "QueueReader$Play" "dues" "[I", Cond.fieldLink RX2 21 "QueueReader$Play" "states" "[I", Cond.methodLink RX2 83 yX2_finish, Cond.instanceMethod yX2_finish, Cond.selects RX2 yX2_finish yX2_finish, Cond.initialized RX2, Cond.code yX2_finish cX2_finish 6 none, Cond.fieldLink RX2 24 "QueueReader$Play" "rows" "[I", Cond.fieldLink RX2 89 "QueueReader$Net" "stepPlaces" "[I", Cond.fieldLink RX2 30 "QueueReader$Play" "free" "[I", Cond.constant RX2 44 (1000000000), Cond.fieldLink RX2 92 "QueueReader$Net" "delays" "[I", Cond.methodLink RX2 61 yX1_lastRow, Cond.instanceMethod yX1_lastRow, Cond.selects RX1 yX1_lastRow yX1_lastRow, Cond.initialized RX1, Cond.code yX1_lastRow cX1_lastRow 2 (some .int), Cond.fieldLink RX1 37 "QueueReader$Net" "lengths" "[I", Cond.methodLink RX1 52 yX1_firstRow, Cond.instanceMethod yX1_firstRow, Cond.selects RX1 yX1_firstRow yX1_firstRow, Cond.code yX1_firstRow cX1_firstRow 2 (some .int), Cond.methodLink RX2 86 yX2_arrive]
def wsX2_advance_r2 : List Cond := [Cond.instanceMethod yX2_arrive, Cond.selects RX2 yX2_arrive yX2_arrive, Cond.code yX2_arrive cX2_arrive 5 none, Cond.fieldLink RX2 9 "QueueReader$Play" "came" "[I", Cond.fieldLink RX2 33 "QueueReader$Play" "waiting" "[I"]
def wsX2_advance : List Cond := .code yX2_advance cX2_advance 4 none :: ((wsX2_advance_r1 ++ wsX2_advance_r2) ++ wsX10 ++ wsX20)
def wsX2_firstWaiting : List Cond := .code yX2_firstWaiting cX2_firstWaiting 10 (some .int) :: ([.fieldLink RX2 58 "QueueReader$Net" "asks" "I", .fieldLink RX2 24 "QueueReader$Play" "rows" "[I", .fieldLink RX2 21 "QueueReader$Play" "states" "[I", .fieldLink RX2 89 "QueueReader$Net" "stepPlaces" "[I", .fieldLink RX2 102 "QueueReader$Net" "rules" "[I", .fieldLink RX2 9 "QueueReader$Play" "came" "[I", .fieldLink RX2 99 "QueueReader$Net" "stepWorks" "[I", .fieldLink RX2 105 "QueueReader$Net" "kinds" "[I", .static yX4_rank, .initialized RX4, .code yX4_rank cX4_rank 4 (some .long), .constantLong RX4 230 (1000000000)] ++ wsX10 ++ wsX20)
def wsX2_beginAt : List Cond := .code yX2_beginAt cX2_beginAt 7 none :: ([.fieldLink RX2 30 "QueueReader$Play" "free" "[I", .fieldLink RX2 33 "QueueReader$Play" "waiting" "[I", .fieldLink RX2 24 "QueueReader$Play" "rows" "[I", .fieldLink RX2 15 "QueueReader$Play" "begun" "[I", .fieldLink RX2 18 "QueueReader$Play" "done" "[I", .fieldLink RX2 99 "QueueReader$Net" "stepWorks" "[I", .fieldLink RX2 21 "QueueReader$Play" "states" "[I", .fieldLink RX2 27 "QueueReader$Play" "dues" "[I", .methodLink RX2 95 yX2_firstWaiting, .instanceMethod yX2_firstWaiting, .selects RX2 yX2_firstWaiting yX2_firstWaiting, .initialized RX2, .code yX2_firstWaiting cX2_firstWaiting 10 (some .int), .fieldLink RX2 58 "QueueReader$Net" "asks" "I", .fieldLink RX2 89 "QueueReader$Net" "stepPlaces" "[I", .fieldLink RX2 102 "QueueReader$Net" "rules" "[I", .fieldLink RX2 9 "QueueReader$Play" "came" "[I", .fieldLink RX2 105 "QueueReader$Net" "kinds" "[I", .static yX4_rank, .initialized RX4, .code yX4_rank cX4_rank 4 (some .long), .constantLong RX4 230 (1000000000)] ++ wsX20 ++ wsX10)
def wsX2_run_r1 : List Cond := [Cond.constant RX2 44 (1000000000), Cond.fieldLink RX2 48 "QueueReader$Net" "places" "I", Cond.methodLink RX2 36 yX2_open, Cond.instanceMethod yX2_open, Cond.selects RX2 yX2_open yX2_open, Cond.initialized RX2, Cond.code yX2_open cX2_open 4 none, Cond.fieldLink RX2 30 "QueueReader$Play" "free" "[I", Cond.fieldLink RX2 74 "QueueReader$Net" "helpers" "[I", Cond.fieldLink RX2 33 "QueueReader$Play" "waiting" "[I", Cond.fieldLink RX2 58 "QueueReader$Net" "asks" "I", Cond.fieldLink RX2 21 "QueueReader$Play" "states" "[I", Cond.fieldLink RX2 24 "QueueReader$Play" "rows" "[I", Cond.fieldLink RX2 27 "QueueReader$Play" "dues" "[I", Cond.fieldLink RX2 65 "QueueReader$Net" "starts" "[I", Cond.methodLink RX2 77 yX1_firstRow, Cond.instanceMethod yX1_firstRow, Cond.selects RX1 yX1_firstRow yX1_firstRow, Cond.initialized RX1, Cond.code yX1_firstRow cX1_firstRow 2 (some .int), Cond.methodLink RX2 40 yX2_nextTick, Cond.instanceMethod yX2_nextTick, Cond.selects RX2 yX2_nextTick yX2_nextTick, Cond.code yX2_nextTick cX2_nextTick 4 (some .int)]
def wsX2_run_r2 : List Cond := [Cond.methodLink RX2 80 Lib.Math.min.name, Cond.static Lib.Math.min.name, Cond.initialized "java/lang/Math", Cond.code Lib.Math.min.name Lib.Math.min.code 2 (some .int), Cond.methodLink RX2 45 yX2_advance, Cond.instanceMethod yX2_advance, Cond.selects RX2 yX2_advance yX2_advance, Cond.code yX2_advance cX2_advance 4 none, Cond.methodLink RX2 83 yX2_finish, Cond.instanceMethod yX2_finish, Cond.selects RX2 yX2_finish yX2_finish, Cond.code yX2_finish cX2_finish 6 none, Cond.fieldLink RX2 89 "QueueReader$Net" "stepPlaces" "[I", Cond.fieldLink RX2 92 "QueueReader$Net" "delays" "[I", Cond.methodLink RX2 61 yX1_lastRow, Cond.instanceMethod yX1_lastRow, Cond.selects RX1 yX1_lastRow yX1_lastRow, Cond.code yX1_lastRow cX1_lastRow 2 (some .int), Cond.fieldLink RX1 37 "QueueReader$Net" "lengths" "[I", Cond.methodLink RX1 52 yX1_firstRow, Cond.methodLink RX2 86 yX2_arrive, Cond.instanceMethod yX2_arrive, Cond.selects RX2 yX2_arrive yX2_arrive, Cond.code yX2_arrive cX2_arrive 5 none]
def wsX2_run_r3 : List Cond := [Cond.fieldLink RX2 9 "QueueReader$Play" "came" "[I", Cond.methodLink RX2 54 yX2_beginAt, Cond.instanceMethod yX2_beginAt, Cond.selects RX2 yX2_beginAt yX2_beginAt, Cond.code yX2_beginAt cX2_beginAt 7 none, Cond.fieldLink RX2 15 "QueueReader$Play" "begun" "[I", Cond.fieldLink RX2 18 "QueueReader$Play" "done" "[I", Cond.fieldLink RX2 99 "QueueReader$Net" "stepWorks" "[I", Cond.methodLink RX2 95 yX2_firstWaiting, Cond.instanceMethod yX2_firstWaiting, Cond.selects RX2 yX2_firstWaiting yX2_firstWaiting, Cond.code yX2_firstWaiting cX2_firstWaiting 10 (some .int), Cond.fieldLink RX2 102 "QueueReader$Net" "rules" "[I", Cond.fieldLink RX2 105 "QueueReader$Net" "kinds" "[I", Cond.static yX4_rank, Cond.initialized RX4, Cond.code yX4_rank cX4_rank 4 (some .long), Cond.constantLong RX4 230 (1000000000)]
def wsX2_run : List Cond := .code yX2_run cX2_run 6 none :: ((wsX2_run_r1 ++ (wsX2_run_r2 ++ wsX2_run_r3)) ++ wsX10 ++ wsX20)
def wsX2_sumOfTimes : List Cond := .code yX2_sumOfTimes cX2_sumOfTimes 5 (some .long) :: ([.fieldLink RX2 58 "QueueReader$Net" "asks" "I", .fieldLink RX2 18 "QueueReader$Play" "done" "[I", .fieldLink RX2 65 "QueueReader$Net" "starts" "[I", .methodLink RX2 61 yX1_lastRow, .instanceMethod yX1_lastRow, .selects RX1 yX1_lastRow yX1_lastRow, .initialized RX1, .code yX1_lastRow cX1_lastRow 2 (some .int), .fieldLink RX1 37 "QueueReader$Net" "lengths" "[I", .methodLink RX1 52 yX1_firstRow, .instanceMethod yX1_firstRow, .selects RX1 yX1_firstRow yX1_firstRow, .code yX1_firstRow cX1_firstRow 2 (some .int)] ++ wsX10 ++ wsX20)
def wsX2_end : List Cond := .code yX2_end cX2_end 4 (some .int) :: ([.fieldLink RX2 58 "QueueReader$Net" "asks" "I", .fieldLink RX2 18 "QueueReader$Play" "done" "[I", .methodLink RX2 68 Lib.Math.max.name, .static Lib.Math.max.name, .initialized "java/lang/Math", .code Lib.Math.max.name Lib.Math.max.code 2 (some .int), .methodLink RX2 61 yX1_lastRow, .instanceMethod yX1_lastRow, .selects RX1 yX1_lastRow yX1_lastRow, .initialized RX1, .code yX1_lastRow cX1_lastRow 2 (some .int), .fieldLink RX1 37 "QueueReader$Net" "lengths" "[I", .methodLink RX1 52 yX1_firstRow, .instanceMethod yX1_firstRow, .selects RX1 yX1_firstRow yX1_firstRow, .code yX1_firstRow cX1_firstRow 2 (some .int)] ++ wsX10 ++ wsX20)
def wsX3_init : List Cond := .code yX3_init cX3_init 1 none :: ([.methodLink RX3 3 objectInit, .instanceMethod objectInit, .code objectInit ⟨#[0xb1]⟩ 1 none, .arrayClass .boolean, .fieldLink RX3 9 "QueueReader$Tracks" "isSeen" "[Z", .arrayClass .int, .fieldLink RX3 15 "QueueReader$Tracks" "begun" "[I", .fieldLink RX3 19 "QueueReader$Tracks" "done" "[I"] ++ wsX30)
def wsX3_tell : List Cond := .code yX3_tell cX3_tell 4 none :: ([.fieldLink RX3 9 "QueueReader$Tracks" "isSeen" "[Z", .fieldLink RX3 15 "QueueReader$Tracks" "begun" "[I", .fieldLink RX3 19 "QueueReader$Tracks" "done" "[I"] ++ wsX30)
def wsX3_size : List Cond := .code yX3_size cX3_size 4 (some .int) :: ([.fieldLink RX3 9 "QueueReader$Tracks" "isSeen" "[Z", .methodLink RX3 22 yX1_rowsEnd, .instanceMethod yX1_rowsEnd, .selects RX1 yX1_rowsEnd yX1_rowsEnd, .initialized RX1, .code yX1_rowsEnd cX1_rowsEnd 1 (some .int), .fieldLink RX1 15 "QueueReader$Net" "asks" "I"] ++ wsX30 ++ wsX10)
def wsX4_init_r1 : List Cond := [Cond.methodLink RX4 3 objectInit, Cond.instanceMethod objectInit, Cond.code objectInit ⟨#[0xb1]⟩ 1 none, Cond.classLink RX4 9 RX1, Cond.instantiable RX1 11, Cond.initialized RX1, Cond.fieldLink RX4 12 "QueueReader" "net" "LQueueReader$Net;", Cond.classLink RX4 16 RX3, Cond.instantiable RX3 3, Cond.initialized RX3, Cond.fieldLink RX4 19 "QueueReader" "told" "LQueueReader$Tracks;", Cond.classLink RX4 23 RX0, Cond.instantiable RX0 7, Cond.initialized RX0, Cond.fieldLink RX4 26 "QueueReader" "fit" "LQueueReader$Fit;", Cond.classLink RX4 30 RX2, Cond.instantiable RX2 8, Cond.initialized RX2, Cond.fieldLink RX4 33 "QueueReader" "play" "LQueueReader$Play;", Cond.fieldLink RX4 37 "QueueReader" "trial" "LQueueReader$Play;", Cond.fieldLink RX4 40 "QueueReader" "isPlayFresh" "Z", Cond.methodLink RX4 11 yX1_init, Cond.instanceMethod yX1_init, Cond.code yX1_init cX1_init 1 none]
def wsX4_init_r2 : List Cond := [Cond.methodLink RX1 3 objectInit, Cond.fieldLink RX1 9 "QueueReader$Net" "places" "I", Cond.fieldLink RX1 15 "QueueReader$Net" "asks" "I", Cond.fieldLink RX1 18 "QueueReader$Net" "steps" "I", Cond.arrayClass .int, Cond.fieldLink RX1 21 "QueueReader$Net" "helpers" "[I", Cond.fieldLink RX1 25 "QueueReader$Net" "rules" "[I", Cond.fieldLink RX1 28 "QueueReader$Net" "delays" "[I", Cond.fieldLink RX1 31 "QueueReader$Net" "kinds" "[I", Cond.fieldLink RX1 34 "QueueReader$Net" "starts" "[I", Cond.fieldLink RX1 37 "QueueReader$Net" "lengths" "[I", Cond.fieldLink RX1 40 "QueueReader$Net" "stepPlaces" "[I", Cond.fieldLink RX1 43 "QueueReader$Net" "stepWorks" "[I", Cond.methodLink RX1 46 yJ7_fill_53178, Cond.static yJ7_fill_53178, Cond.initialized RJ7, Cond.code yJ7_fill_53178 cJ7_fill_53178 4 none, Cond.methodLink RX4 18 yX3_init, Cond.instanceMethod yX3_init, Cond.code yX3_init cX3_init 1 none, Cond.methodLink RX3 3 objectInit, Cond.arrayClass .boolean, Cond.fieldLink RX3 9 "QueueReader$Tracks" "isSeen" "[Z", Cond.fieldLink RX3 15 "QueueReader$Tracks" "begun" "[I"]
def wsX4_init_r3 : List Cond := [Cond.fieldLink RX3 19 "QueueReader$Tracks" "done" "[I", Cond.methodLink RX4 25 yX0_init, Cond.instanceMethod yX0_init, Cond.code yX0_init cX0_init 1 none, Cond.methodLink RX0 3 objectInit, Cond.fieldLink RX0 9 "QueueReader$Fit" "size" "I", Cond.fieldLink RX0 15 "QueueReader$Fit" "isWhole" "Z", Cond.fieldLink RX0 19 "QueueReader$Fit" "came" "[I", Cond.fieldLink RX0 23 "QueueReader$Fit" "begun" "[I", Cond.fieldLink RX0 26 "QueueReader$Fit" "done" "[I", Cond.fieldLink RX0 29 "QueueReader$Fit" "kinds" "[I", Cond.arrayClass .long, Cond.fieldLink RX0 32 "QueueReader$Fit" "ranks" "[J", Cond.methodLink RX4 32 yX2_init, Cond.instanceMethod yX2_init, Cond.code yX2_init cX2_init 1 none, Cond.methodLink RX2 3 objectInit, Cond.fieldLink RX2 9 "QueueReader$Play" "came" "[I", Cond.fieldLink RX2 15 "QueueReader$Play" "begun" "[I", Cond.fieldLink RX2 18 "QueueReader$Play" "done" "[I", Cond.fieldLink RX2 21 "QueueReader$Play" "states" "[I", Cond.fieldLink RX2 24 "QueueReader$Play" "rows" "[I", Cond.fieldLink RX2 27 "QueueReader$Play" "dues" "[I", Cond.fieldLink RX2 30 "QueueReader$Play" "free" "[I"]
def wsX4_init_r4 : List Cond := [Cond.fieldLink RX2 33 "QueueReader$Play" "waiting" "[I"]
def wsX4_init : List Cond := .code yX4_init cX4_init 1 none :: ((wsX4_init_r1 ++ (wsX4_init_r2 ++ (wsX4_init_r3 ++ wsX4_init_r4))) ++ wsX10 ++ wsX40 ++ wsX30 ++ wsX00 ++ wsX20)
def wsX4_needWithin : List Cond := .code yX4_needWithin cX4_needWithin 3 none :: ([.classLink RX4 98 "java/lang/IllegalArgumentException", .initialized "java/lang/IllegalArgumentException"] ++ (vx_atS RX4 102 "java/lang/IllegalArgumentException" ["java/lang/RuntimeException", "java/lang/Exception"]).filter goodWord)
def wsX4_needPlaceNumbers : List Cond := .code yX4_needPlaceNumbers cX4_needPlaceNumbers 3 none :: ([.methodLink RX4 67 yX4_needWithin, .static yX4_needWithin, .initialized RX4, .code yX4_needWithin cX4_needWithin 3 none, .classLink RX4 98 "java/lang/IllegalArgumentException", .initialized "java/lang/IllegalArgumentException"] ++ (vx_atS RX4 102 "java/lang/IllegalArgumentException" ["java/lang/RuntimeException", "java/lang/Exception"]).filter goodWord)
def wsX4_place : List Cond := .code yX4_place cX4_place 5 (some .int) :: ([.classLink RX4 52 "java/lang/UnsupportedOperationException", .initialized "java/lang/UnsupportedOperationException", .fieldLink RX4 12 "QueueReader" "net" "LQueueReader$Net;", .fieldLink RX4 48 "QueueReader$Net" "places" "I", .fieldLink RX4 40 "QueueReader" "isPlayFresh" "Z", .methodLink RX4 44 yX4_needPlaceNumbers, .static yX4_needPlaceNumbers, .initialized RX4, .code yX4_needPlaceNumbers cX4_needPlaceNumbers 3 none, .methodLink RX4 67 yX4_needWithin, .static yX4_needWithin, .code yX4_needWithin cX4_needWithin 3 none, .classLink RX4 98 "java/lang/IllegalArgumentException", .initialized "java/lang/IllegalArgumentException", .methodLink RX4 59 yX1_setPlace, .instanceMethod yX1_setPlace, .selects RX1 yX1_setPlace yX1_setPlace, .initialized RX1, .code yX1_setPlace cX1_setPlace 5 none, .fieldLink RX1 21 "QueueReader$Net" "helpers" "[I", .fieldLink RX1 25 "QueueReader$Net" "rules" "[I", .fieldLink RX1 28 "QueueReader$Net" "delays" "[I"] ++ wsX40 ++ wsX10 ++ (vx_atS RX4 56 "java/lang/UnsupportedOperationException" ["java/lang/RuntimeException", "java/lang/Exception"]).filter goodWord ++ (vx_atS RX4 102 "java/lang/IllegalArgumentException" ["java/lang/RuntimeException", "java/lang/Exception"]).filter goodWord)
def wsX4_needPlace : List Cond := .code yX4_needPlace cX4_needPlace 2 none :: ([.classLink RX4 214 "java/lang/IndexOutOfBoundsException", .initialized "java/lang/IndexOutOfBoundsException", .fieldLink RX4 12 "QueueReader" "net" "LQueueReader$Net;", .fieldLink RX4 48 "QueueReader$Net" "places" "I"] ++ wsX40 ++ wsX10 ++ (vx_atS RX4 218 "java/lang/IndexOutOfBoundsException" ["java/lang/RuntimeException", "java/lang/Exception"]).filter goodWord)
def wsX4_change_r1 : List Cond := [Cond.fieldLink RX4 12 "QueueReader" "net" "LQueueReader$Net;", Cond.fieldLink RX4 40 "QueueReader" "isPlayFresh" "Z", Cond.methodLink RX4 63 yX4_needPlace, Cond.instanceMethod yX4_needPlace, Cond.selects RX4 yX4_needPlace yX4_needPlace, Cond.initialized RX4, Cond.code yX4_needPlace cX4_needPlace 2 none, Cond.classLink RX4 214 "java/lang/IndexOutOfBoundsException", Cond.initialized "java/lang/IndexOutOfBoundsException", Cond.fieldLink RX4 48 "QueueReader$Net" "places" "I", Cond.methodLink RX4 44 yX4_needPlaceNumbers, Cond.static yX4_needPlaceNumbers, Cond.code yX4_needPlaceNumbers cX4_needPlaceNumbers 3 none, Cond.methodLink RX4 67 yX4_needWithin, Cond.static yX4_needWithin, Cond.code yX4_needWithin cX4_needWithin 3 none, Cond.classLink RX4 98 "java/lang/IllegalArgumentException", Cond.initialized "java/lang/IllegalArgumentException", Cond.methodLink RX4 59 yX1_setPlace, Cond.instanceMethod yX1_setPlace, Cond.selects RX1 yX1_setPlace yX1_setPlace, Cond.initialized RX1, Cond.code yX1_setPlace cX1_setPlace 5 none, Cond.fieldLink RX1 21 "QueueReader$Net" "helpers" "[I"]
def wsX4_change_r2 : List Cond := [Cond.fieldLink RX1 25 "QueueReader$Net" "rules" "[I", Cond.fieldLink RX1 28 "QueueReader$Net" "delays" "[I"]
def wsX4_change : List Cond := .code yX4_change cX4_change 5 none :: ((wsX4_change_r1 ++ wsX4_change_r2) ++ wsX40 ++ wsX10 ++ (vx_atS RX4 218 "java/lang/IndexOutOfBoundsException" ["java/lang/RuntimeException", "java/lang/Exception"]).filter goodWord ++ (vx_atS RX4 102 "java/lang/IllegalArgumentException" ["java/lang/RuntimeException", "java/lang/Exception"]).filter goodWord)
def wsX4_ask_r1 : List Cond := [Cond.classLink RX4 52 "java/lang/UnsupportedOperationException", Cond.initialized "java/lang/UnsupportedOperationException", Cond.constant RX4 70 (100000), Cond.fieldLink RX4 12 "QueueReader" "net" "LQueueReader$Net;", Cond.fieldLink RX4 71 "QueueReader$Net" "asks" "I", Cond.fieldLink RX4 76 "QueueReader$Net" "kinds" "[I", Cond.fieldLink RX4 80 "QueueReader$Net" "starts" "[I", Cond.fieldLink RX4 40 "QueueReader" "isPlayFresh" "Z", Cond.methodLink RX4 63 yX4_needPlace, Cond.instanceMethod yX4_needPlace, Cond.selects RX4 yX4_needPlace yX4_needPlace, Cond.initialized RX4, Cond.code yX4_needPlace cX4_needPlace 2 none, Cond.classLink RX4 214 "java/lang/IndexOutOfBoundsException", Cond.initialized "java/lang/IndexOutOfBoundsException", Cond.fieldLink RX4 48 "QueueReader$Net" "places" "I", Cond.methodLink RX4 67 yX4_needWithin, Cond.static yX4_needWithin, Cond.code yX4_needWithin cX4_needWithin 3 none, Cond.classLink RX4 98 "java/lang/IllegalArgumentException", Cond.initialized "java/lang/IllegalArgumentException", Cond.methodLink RX4 83 yX1_addStep, Cond.instanceMethod yX1_addStep, Cond.selects RX1 yX1_addStep yX1_addStep]
def wsX4_ask_r2 : List Cond := [Cond.initialized RX1, Cond.code yX1_addStep cX1_addStep 6 (some .int), Cond.fieldLink RX1 37 "QueueReader$Net" "lengths" "[I", Cond.fieldLink RX1 40 "QueueReader$Net" "stepPlaces" "[I", Cond.fieldLink RX1 43 "QueueReader$Net" "stepWorks" "[I", Cond.fieldLink RX1 18 "QueueReader$Net" "steps" "I", Cond.methodLink RX1 52 yX1_firstRow, Cond.instanceMethod yX1_firstRow, Cond.selects RX1 yX1_firstRow yX1_firstRow, Cond.code yX1_firstRow cX1_firstRow 2 (some .int)]
def wsX4_ask : List Cond := .code yX4_ask cX4_ask 6 (some .int) :: ((wsX4_ask_r1 ++ wsX4_ask_r2) ++ wsX40 ++ wsX10 ++ (vx_atS RX4 56 "java/lang/UnsupportedOperationException" ["java/lang/RuntimeException", "java/lang/Exception"]).filter goodWord ++ (vx_atS RX4 218 "java/lang/IndexOutOfBoundsException" ["java/lang/RuntimeException", "java/lang/Exception"]).filter goodWord ++ (vx_atS RX4 102 "java/lang/IllegalArgumentException" ["java/lang/RuntimeException", "java/lang/Exception"]).filter goodWord)
def wsX4_needAsk : List Cond := .code yX4_needAsk cX4_needAsk 2 none :: ([.classLink RX4 214 "java/lang/IndexOutOfBoundsException", .initialized "java/lang/IndexOutOfBoundsException", .fieldLink RX4 12 "QueueReader" "net" "LQueueReader$Net;", .fieldLink RX4 71 "QueueReader$Net" "asks" "I"] ++ wsX40 ++ wsX10 ++ (vx_atS RX4 218 "java/lang/IndexOutOfBoundsException" ["java/lang/RuntimeException", "java/lang/Exception"]).filter goodWord)
def wsX4_step_r1 : List Cond := [Cond.fieldLink RX4 12 "QueueReader" "net" "LQueueReader$Net;", Cond.fieldLink RX4 90 "QueueReader$Net" "lengths" "[I", Cond.fieldLink RX4 40 "QueueReader" "isPlayFresh" "Z", Cond.methodLink RX4 87 yX4_needAsk, Cond.instanceMethod yX4_needAsk, Cond.selects RX4 yX4_needAsk yX4_needAsk, Cond.initialized RX4, Cond.code yX4_needAsk cX4_needAsk 2 none, Cond.classLink RX4 214 "java/lang/IndexOutOfBoundsException", Cond.initialized "java/lang/IndexOutOfBoundsException", Cond.fieldLink RX4 71 "QueueReader$Net" "asks" "I", Cond.methodLink RX4 63 yX4_needPlace, Cond.instanceMethod yX4_needPlace, Cond.selects RX4 yX4_needPlace yX4_needPlace, Cond.code yX4_needPlace cX4_needPlace 2 none, Cond.fieldLink RX4 48 "QueueReader$Net" "places" "I", Cond.methodLink RX4 67 yX4_needWithin, Cond.static yX4_needWithin, Cond.code yX4_needWithin cX4_needWithin 3 none, Cond.classLink RX4 98 "java/lang/IllegalArgumentException", Cond.initialized "java/lang/IllegalArgumentException", Cond.methodLink RX4 83 yX1_addStep, Cond.instanceMethod yX1_addStep, Cond.selects RX1 yX1_addStep yX1_addStep]
def wsX4_step_r2 : List Cond := [Cond.initialized RX1, Cond.code yX1_addStep cX1_addStep 6 (some .int), Cond.fieldLink RX1 37 "QueueReader$Net" "lengths" "[I", Cond.fieldLink RX1 40 "QueueReader$Net" "stepPlaces" "[I", Cond.fieldLink RX1 43 "QueueReader$Net" "stepWorks" "[I", Cond.fieldLink RX1 18 "QueueReader$Net" "steps" "I", Cond.methodLink RX1 52 yX1_firstRow, Cond.instanceMethod yX1_firstRow, Cond.selects RX1 yX1_firstRow yX1_firstRow, Cond.code yX1_firstRow cX1_firstRow 2 (some .int)]
def wsX4_step : List Cond := .code yX4_step cX4_step 4 (some .int) :: ((wsX4_step_r1 ++ wsX4_step_r2) ++ wsX40 ++ wsX10 ++ (vx_atS RX4 218 "java/lang/IndexOutOfBoundsException" ["java/lang/RuntimeException", "java/lang/Exception"]).filter goodWord ++ (vx_atS RX4 102 "java/lang/IllegalArgumentException" ["java/lang/RuntimeException", "java/lang/Exception"]).filter goodWord)
def wsX4_needStep : List Cond := .code yX4_needStep cX4_needStep 3 (some .int) :: ([.classLink RX4 214 "java/lang/IndexOutOfBoundsException", .initialized "java/lang/IndexOutOfBoundsException", .fieldLink RX4 12 "QueueReader" "net" "LQueueReader$Net;", .fieldLink RX4 90 "QueueReader$Net" "lengths" "[I", .methodLink RX4 87 yX4_needAsk, .instanceMethod yX4_needAsk, .selects RX4 yX4_needAsk yX4_needAsk, .initialized RX4, .code yX4_needAsk cX4_needAsk 2 none, .fieldLink RX4 71 "QueueReader$Net" "asks" "I", .methodLink RX4 167 yX1_firstRow, .instanceMethod yX1_firstRow, .selects RX1 yX1_firstRow yX1_firstRow, .initialized RX1, .code yX1_firstRow cX1_firstRow 2 (some .int)] ++ wsX40 ++ wsX10 ++ (vx_atS RX4 218 "java/lang/IndexOutOfBoundsException" ["java/lang/RuntimeException", "java/lang/Exception"]).filter goodWord)
def wsX4_seen_r1 : List Cond := [Cond.classLink RX4 98 "java/lang/IllegalArgumentException", Cond.initialized "java/lang/IllegalArgumentException", Cond.constant RX4 97 (10000000), Cond.fieldLink RX4 19 "QueueReader" "told" "LQueueReader$Tracks;", Cond.methodLink RX4 93 yX4_needStep, Cond.instanceMethod yX4_needStep, Cond.selects RX4 yX4_needStep yX4_needStep, Cond.initialized RX4, Cond.code yX4_needStep cX4_needStep 3 (some .int), Cond.classLink RX4 214 "java/lang/IndexOutOfBoundsException", Cond.initialized "java/lang/IndexOutOfBoundsException", Cond.fieldLink RX4 12 "QueueReader" "net" "LQueueReader$Net;", Cond.fieldLink RX4 90 "QueueReader$Net" "lengths" "[I", Cond.methodLink RX4 87 yX4_needAsk, Cond.instanceMethod yX4_needAsk, Cond.selects RX4 yX4_needAsk yX4_needAsk, Cond.code yX4_needAsk cX4_needAsk 2 none, Cond.fieldLink RX4 71 "QueueReader$Net" "asks" "I", Cond.methodLink RX4 167 yX1_firstRow, Cond.instanceMethod yX1_firstRow, Cond.selects RX1 yX1_firstRow yX1_firstRow, Cond.initialized RX1, Cond.code yX1_firstRow cX1_firstRow 2 (some .int), Cond.methodLink RX4 67 yX4_needWithin]
def wsX4_seen_r2 : List Cond := [Cond.static yX4_needWithin, Cond.code yX4_needWithin cX4_needWithin 3 none, Cond.methodLink RX4 103 yX3_tell, Cond.instanceMethod yX3_tell, Cond.selects RX3 yX3_tell yX3_tell, Cond.initialized RX3, Cond.code yX3_tell cX3_tell 4 none, Cond.fieldLink RX3 9 "QueueReader$Tracks" "isSeen" "[Z", Cond.fieldLink RX3 15 "QueueReader$Tracks" "begun" "[I", Cond.fieldLink RX3 19 "QueueReader$Tracks" "done" "[I"]
def wsX4_seen : List Cond := .code yX4_seen cX4_seen 6 none :: ((wsX4_seen_r1 ++ wsX4_seen_r2) ++ wsX40 ++ wsX10 ++ wsX30 ++ (vx_atS RX4 102 "java/lang/IllegalArgumentException" ["java/lang/RuntimeException", "java/lang/Exception"]).filter goodWord ++ (vx_atS RX4 218 "java/lang/IndexOutOfBoundsException" ["java/lang/RuntimeException", "java/lang/Exception"]).filter goodWord)
def wsX4_unsee : List Cond := .code yX4_unsee cX4_unsee 5 (some .boolean) :: ([.fieldLink RX4 19 "QueueReader" "told" "LQueueReader$Tracks;", .fieldLink RX4 106 "QueueReader$Tracks" "isSeen" "[Z", .methodLink RX4 93 yX4_needStep, .instanceMethod yX4_needStep, .selects RX4 yX4_needStep yX4_needStep, .initialized RX4, .code yX4_needStep cX4_needStep 3 (some .int), .classLink RX4 214 "java/lang/IndexOutOfBoundsException", .initialized "java/lang/IndexOutOfBoundsException", .fieldLink RX4 12 "QueueReader" "net" "LQueueReader$Net;", .fieldLink RX4 90 "QueueReader$Net" "lengths" "[I", .methodLink RX4 87 yX4_needAsk, .instanceMethod yX4_needAsk, .selects RX4 yX4_needAsk yX4_needAsk, .code yX4_needAsk cX4_needAsk 2 none, .fieldLink RX4 71 "QueueReader$Net" "asks" "I", .methodLink RX4 167 yX1_firstRow, .instanceMethod yX1_firstRow, .selects RX1 yX1_firstRow yX1_firstRow, .initialized RX1, .code yX1_firstRow cX1_firstRow 2 (some .int)] ++ wsX40 ++ wsX30 ++ wsX10 ++ (vx_atS RX4 218 "java/lang/IndexOutOfBoundsException" ["java/lang/RuntimeException", "java/lang/Exception"]).filter goodWord)
def wsX4_needWhat : List Cond := .code yX4_needWhat cX4_needWhat 2 none :: ([.classLink RX4 225 "java/util/NoSuchElementException", .initialized "java/util/NoSuchElementException"] ++ (vx_atS RX4 229 "java/util/NoSuchElementException" ["java/lang/RuntimeException", "java/lang/Exception"]).filter goodWord)
def wsX4_refreshPlay_r1 : List Cond := [Cond.fieldLink RX4 40 "QueueReader" "isPlayFresh" "Z", Cond.fieldLink RX4 33 "QueueReader" "play" "LQueueReader$Play;", Cond.fieldLink RX4 12 "QueueReader" "net" "LQueueReader$Net;", Cond.methodLink RX4 210 yX2_run, Cond.instanceMethod yX2_run, Cond.selects RX2 yX2_run yX2_run, Cond.initialized RX2, Cond.code yX2_run cX2_run 6 none, Cond.constant RX2 44 (1000000000), Cond.fieldLink RX2 48 "QueueReader$Net" "places" "I", Cond.methodLink RX2 36 yX2_open, Cond.instanceMethod yX2_open, Cond.selects RX2 yX2_open yX2_open, Cond.code yX2_open cX2_open 4 none, Cond.fieldLink RX2 30 "QueueReader$Play" "free" "[I", Cond.fieldLink RX2 74 "QueueReader$Net" "helpers" "[I", Cond.fieldLink RX2 33 "QueueReader$Play" "waiting" "[I", Cond.fieldLink RX2 58 "QueueReader$Net" "asks" "I", Cond.fieldLink RX2 21 "QueueReader$Play" "states" "[I", Cond.fieldLink RX2 24 "QueueReader$Play" "rows" "[I", Cond.fieldLink RX2 27 "QueueReader$Play" "dues" "[I", Cond.fieldLink RX2 65 "QueueReader$Net" "starts" "[I", Cond.methodLink RX2 77 yX1_firstRow, Cond.instanceMethod yX1_firstRow]
def wsX4_refreshPlay_r2 : List Cond := [Cond.selects RX1 yX1_firstRow yX1_firstRow, Cond.initialized RX1, Cond.code yX1_firstRow cX1_firstRow 2 (some .int), Cond.methodLink RX2 40 yX2_nextTick, Cond.instanceMethod yX2_nextTick, Cond.selects RX2 yX2_nextTick yX2_nextTick, Cond.code yX2_nextTick cX2_nextTick 4 (some .int), Cond.methodLink RX2 80 Lib.Math.min.name, Cond.static Lib.Math.min.name, Cond.initialized "java/lang/Math", Cond.code Lib.Math.min.name Lib.Math.min.code 2 (some .int), Cond.methodLink RX2 45 yX2_advance, Cond.instanceMethod yX2_advance, Cond.selects RX2 yX2_advance yX2_advance, Cond.code yX2_advance cX2_advance 4 none, Cond.methodLink RX2 83 yX2_finish, Cond.instanceMethod yX2_finish, Cond.selects RX2 yX2_finish yX2_finish, Cond.code yX2_finish cX2_finish 6 none, Cond.fieldLink RX2 89 "QueueReader$Net" "stepPlaces" "[I", Cond.fieldLink RX2 92 "QueueReader$Net" "delays" "[I", Cond.methodLink RX2 61 yX1_lastRow, Cond.instanceMethod yX1_lastRow, Cond.selects RX1 yX1_lastRow yX1_lastRow]
def wsX4_refreshPlay_r3 : List Cond := [Cond.code yX1_lastRow cX1_lastRow 2 (some .int), Cond.fieldLink RX1 37 "QueueReader$Net" "lengths" "[I", Cond.methodLink RX1 52 yX1_firstRow, Cond.methodLink RX2 86 yX2_arrive, Cond.instanceMethod yX2_arrive, Cond.selects RX2 yX2_arrive yX2_arrive, Cond.code yX2_arrive cX2_arrive 5 none, Cond.fieldLink RX2 9 "QueueReader$Play" "came" "[I", Cond.methodLink RX2 54 yX2_beginAt, Cond.instanceMethod yX2_beginAt, Cond.selects RX2 yX2_beginAt yX2_beginAt, Cond.code yX2_beginAt cX2_beginAt 7 none, Cond.fieldLink RX2 15 "QueueReader$Play" "begun" "[I", Cond.fieldLink RX2 18 "QueueReader$Play" "done" "[I", Cond.fieldLink RX2 99 "QueueReader$Net" "stepWorks" "[I", Cond.methodLink RX2 95 yX2_firstWaiting, Cond.instanceMethod yX2_firstWaiting, Cond.selects RX2 yX2_firstWaiting yX2_firstWaiting, Cond.code yX2_firstWaiting cX2_firstWaiting 10 (some .int), Cond.fieldLink RX2 102 "QueueReader$Net" "rules" "[I", Cond.fieldLink RX2 105 "QueueReader$Net" "kinds" "[I", Cond.static yX4_rank, Cond.initialized RX4, Cond.code yX4_rank cX4_rank 4 (some .long)]
def wsX4_refreshPlay_r4 : List Cond := [Cond.constantLong RX4 230 (1000000000)]
def wsX4_refreshPlay : List Cond := .code yX4_refreshPlay cX4_refreshPlay 1 none :: ((wsX4_refreshPlay_r1 ++ (wsX4_refreshPlay_r2 ++ (wsX4_refreshPlay_r3 ++ wsX4_refreshPlay_r4))) ++ wsX40 ++ wsX10 ++ wsX20)
def wsX4_played_r1 : List Cond := [Cond.fieldLink RX4 33 "QueueReader" "play" "LQueueReader$Play;", Cond.fieldLink RX4 117 "QueueReader$Play" "came" "[I", Cond.fieldLink RX4 120 "QueueReader$Play" "begun" "[I", Cond.fieldLink RX4 123 "QueueReader$Play" "done" "[I", Cond.methodLink RX4 93 yX4_needStep, Cond.instanceMethod yX4_needStep, Cond.selects RX4 yX4_needStep yX4_needStep, Cond.initialized RX4, Cond.code yX4_needStep cX4_needStep 3 (some .int), Cond.classLink RX4 214 "java/lang/IndexOutOfBoundsException", Cond.initialized "java/lang/IndexOutOfBoundsException", Cond.fieldLink RX4 12 "QueueReader" "net" "LQueueReader$Net;", Cond.fieldLink RX4 90 "QueueReader$Net" "lengths" "[I", Cond.methodLink RX4 87 yX4_needAsk, Cond.instanceMethod yX4_needAsk, Cond.selects RX4 yX4_needAsk yX4_needAsk, Cond.code yX4_needAsk cX4_needAsk 2 none, Cond.fieldLink RX4 71 "QueueReader$Net" "asks" "I", Cond.methodLink RX4 167 yX1_firstRow, Cond.instanceMethod yX1_firstRow, Cond.selects RX1 yX1_firstRow yX1_firstRow, Cond.initialized RX1, Cond.code yX1_firstRow cX1_firstRow 2 (some .int), Cond.methodLink RX4 110 yX4_needWhat]
def wsX4_played_r2 : List Cond := [Cond.static yX4_needWhat, Cond.code yX4_needWhat cX4_needWhat 2 none, Cond.classLink RX4 225 "java/util/NoSuchElementException", Cond.initialized "java/util/NoSuchElementException", Cond.methodLink RX4 114 yX4_refreshPlay, Cond.instanceMethod yX4_refreshPlay, Cond.selects RX4 yX4_refreshPlay yX4_refreshPlay, Cond.code yX4_refreshPlay cX4_refreshPlay 1 none, Cond.fieldLink RX4 40 "QueueReader" "isPlayFresh" "Z", Cond.methodLink RX4 210 yX2_run, Cond.instanceMethod yX2_run, Cond.selects RX2 yX2_run yX2_run, Cond.initialized RX2, Cond.code yX2_run cX2_run 6 none, Cond.constant RX2 44 (1000000000), Cond.fieldLink RX2 48 "QueueReader$Net" "places" "I", Cond.methodLink RX2 36 yX2_open, Cond.instanceMethod yX2_open, Cond.selects RX2 yX2_open yX2_open, Cond.code yX2_open cX2_open 4 none, Cond.fieldLink RX2 30 "QueueReader$Play" "free" "[I", Cond.fieldLink RX2 74 "QueueReader$Net" "helpers" "[I", Cond.fieldLink RX2 33 "QueueReader$Play" "waiting" "[I", Cond.fieldLink RX2 58 "QueueReader$Net" "asks" "I"]
def wsX4_played_r3 : List Cond := [Cond.fieldLink RX2 21 "QueueReader$Play" "states" "[I", Cond.fieldLink RX2 24 "QueueReader$Play" "rows" "[I", Cond.fieldLink RX2 27 "QueueReader$Play" "dues" "[I", Cond.fieldLink RX2 65 "QueueReader$Net" "starts" "[I", Cond.methodLink RX2 77 yX1_firstRow, Cond.methodLink RX2 40 yX2_nextTick, Cond.instanceMethod yX2_nextTick, Cond.selects RX2 yX2_nextTick yX2_nextTick, Cond.code yX2_nextTick cX2_nextTick 4 (some .int), Cond.methodLink RX2 80 Lib.Math.min.name, Cond.static Lib.Math.min.name, Cond.initialized "java/lang/Math", Cond.code Lib.Math.min.name Lib.Math.min.code 2 (some .int), Cond.methodLink RX2 45 yX2_advance, Cond.instanceMethod yX2_advance, Cond.selects RX2 yX2_advance yX2_advance, Cond.code yX2_advance cX2_advance 4 none, Cond.methodLink RX2 83 yX2_finish, Cond.instanceMethod yX2_finish, Cond.selects RX2 yX2_finish yX2_finish, Cond.code yX2_finish cX2_finish 6 none, Cond.fieldLink RX2 89 "QueueReader$Net" "stepPlaces" "[I", Cond.fieldLink RX2 92 "QueueReader$Net" "delays" "[I", Cond.methodLink RX2 61 yX1_lastRow]
def wsX4_played_r4 : List Cond := [Cond.instanceMethod yX1_lastRow, Cond.selects RX1 yX1_lastRow yX1_lastRow, Cond.code yX1_lastRow cX1_lastRow 2 (some .int), Cond.fieldLink RX1 37 "QueueReader$Net" "lengths" "[I", Cond.methodLink RX1 52 yX1_firstRow, Cond.methodLink RX2 86 yX2_arrive, Cond.instanceMethod yX2_arrive, Cond.selects RX2 yX2_arrive yX2_arrive, Cond.code yX2_arrive cX2_arrive 5 none, Cond.fieldLink RX2 9 "QueueReader$Play" "came" "[I", Cond.methodLink RX2 54 yX2_beginAt, Cond.instanceMethod yX2_beginAt, Cond.selects RX2 yX2_beginAt yX2_beginAt, Cond.code yX2_beginAt cX2_beginAt 7 none, Cond.fieldLink RX2 15 "QueueReader$Play" "begun" "[I", Cond.fieldLink RX2 18 "QueueReader$Play" "done" "[I", Cond.fieldLink RX2 99 "QueueReader$Net" "stepWorks" "[I", Cond.methodLink RX2 95 yX2_firstWaiting, Cond.instanceMethod yX2_firstWaiting, Cond.selects RX2 yX2_firstWaiting yX2_firstWaiting, Cond.code yX2_firstWaiting cX2_firstWaiting 10 (some .int), Cond.fieldLink RX2 102 "QueueReader$Net" "rules" "[I", Cond.fieldLink RX2 105 "QueueReader$Net" "kinds" "[I", Cond.static yX4_rank]
def wsX4_played_r5 : List Cond := [Cond.code yX4_rank cX4_rank 4 (some .long), Cond.constantLong RX4 230 (1000000000)]
def wsX4_played : List Cond := .code yX4_played cX4_played 5 (some .int) :: ((wsX4_played_r1 ++ (wsX4_played_r2 ++ (wsX4_played_r3 ++ (wsX4_played_r4 ++ wsX4_played_r5)))) ++ wsX40 ++ wsX20 ++ wsX10 ++ (vx_atS RX4 218 "java/lang/IndexOutOfBoundsException" ["java/lang/RuntimeException", "java/lang/Exception"]).filter goodWord ++ (vx_atS RX4 229 "java/util/NoSuchElementException" ["java/lang/RuntimeException", "java/lang/Exception"]).filter goodWord)
def wsX4_trace_r1 : List Cond := [Cond.fieldLink RX4 12 "QueueReader" "net" "LQueueReader$Net;", Cond.fieldLink RX4 19 "QueueReader" "told" "LQueueReader$Tracks;", Cond.fieldLink RX4 33 "QueueReader" "play" "LQueueReader$Play;", Cond.fieldLink RX4 120 "QueueReader$Play" "begun" "[I", Cond.fieldLink RX4 123 "QueueReader$Play" "done" "[I", Cond.fieldLink RX4 134 "QueueReader$Net" "steps" "I", Cond.methodLink RX4 114 yX4_refreshPlay, Cond.instanceMethod yX4_refreshPlay, Cond.selects RX4 yX4_refreshPlay yX4_refreshPlay, Cond.initialized RX4, Cond.code yX4_refreshPlay cX4_refreshPlay 1 none, Cond.fieldLink RX4 40 "QueueReader" "isPlayFresh" "Z", Cond.methodLink RX4 210 yX2_run, Cond.instanceMethod yX2_run, Cond.selects RX2 yX2_run yX2_run, Cond.initialized RX2, Cond.code yX2_run cX2_run 6 none, Cond.constant RX2 44 (1000000000), Cond.fieldLink RX2 48 "QueueReader$Net" "places" "I", Cond.methodLink RX2 36 yX2_open, Cond.instanceMethod yX2_open, Cond.selects RX2 yX2_open yX2_open, Cond.code yX2_open cX2_open 4 none, Cond.fieldLink RX2 30 "QueueReader$Play" "free" "[I"]
def wsX4_trace_r2 : List Cond := [Cond.fieldLink RX2 74 "QueueReader$Net" "helpers" "[I", Cond.fieldLink RX2 33 "QueueReader$Play" "waiting" "[I", Cond.fieldLink RX2 58 "QueueReader$Net" "asks" "I", Cond.fieldLink RX2 21 "QueueReader$Play" "states" "[I", Cond.fieldLink RX2 24 "QueueReader$Play" "rows" "[I", Cond.fieldLink RX2 27 "QueueReader$Play" "dues" "[I", Cond.fieldLink RX2 65 "QueueReader$Net" "starts" "[I", Cond.methodLink RX2 77 yX1_firstRow, Cond.instanceMethod yX1_firstRow, Cond.selects RX1 yX1_firstRow yX1_firstRow, Cond.initialized RX1, Cond.code yX1_firstRow cX1_firstRow 2 (some .int), Cond.methodLink RX2 40 yX2_nextTick, Cond.instanceMethod yX2_nextTick, Cond.selects RX2 yX2_nextTick yX2_nextTick, Cond.code yX2_nextTick cX2_nextTick 4 (some .int), Cond.methodLink RX2 80 Lib.Math.min.name, Cond.static Lib.Math.min.name, Cond.initialized "java/lang/Math", Cond.code Lib.Math.min.name Lib.Math.min.code 2 (some .int), Cond.methodLink RX2 45 yX2_advance, Cond.instanceMethod yX2_advance, Cond.selects RX2 yX2_advance yX2_advance, Cond.code yX2_advance cX2_advance 4 none]
def wsX4_trace_r3 : List Cond := [Cond.methodLink RX2 83 yX2_finish, Cond.instanceMethod yX2_finish, Cond.selects RX2 yX2_finish yX2_finish, Cond.code yX2_finish cX2_finish 6 none, Cond.fieldLink RX2 89 "QueueReader$Net" "stepPlaces" "[I", Cond.fieldLink RX2 92 "QueueReader$Net" "delays" "[I", Cond.methodLink RX2 61 yX1_lastRow, Cond.instanceMethod yX1_lastRow, Cond.selects RX1 yX1_lastRow yX1_lastRow, Cond.code yX1_lastRow cX1_lastRow 2 (some .int), Cond.fieldLink RX1 37 "QueueReader$Net" "lengths" "[I", Cond.methodLink RX1 52 yX1_firstRow, Cond.methodLink RX2 86 yX2_arrive, Cond.instanceMethod yX2_arrive, Cond.selects RX2 yX2_arrive yX2_arrive, Cond.code yX2_arrive cX2_arrive 5 none, Cond.fieldLink RX2 9 "QueueReader$Play" "came" "[I", Cond.methodLink RX2 54 yX2_beginAt, Cond.instanceMethod yX2_beginAt, Cond.selects RX2 yX2_beginAt yX2_beginAt, Cond.code yX2_beginAt cX2_beginAt 7 none, Cond.fieldLink RX2 15 "QueueReader$Play" "begun" "[I", Cond.fieldLink RX2 18 "QueueReader$Play" "done" "[I", Cond.fieldLink RX2 99 "QueueReader$Net" "stepWorks" "[I"]
def wsX4_trace_r4 : List Cond := [Cond.methodLink RX2 95 yX2_firstWaiting, Cond.instanceMethod yX2_firstWaiting, Cond.selects RX2 yX2_firstWaiting yX2_firstWaiting, Cond.code yX2_firstWaiting cX2_firstWaiting 10 (some .int), Cond.fieldLink RX2 102 "QueueReader$Net" "rules" "[I", Cond.fieldLink RX2 105 "QueueReader$Net" "kinds" "[I", Cond.static yX4_rank, Cond.code yX4_rank cX4_rank 4 (some .long), Cond.constantLong RX4 230 (1000000000), Cond.methodLink RX4 126 yX1_rowsEnd, Cond.instanceMethod yX1_rowsEnd, Cond.selects RX1 yX1_rowsEnd yX1_rowsEnd, Cond.code yX1_rowsEnd cX1_rowsEnd 1 (some .int), Cond.fieldLink RX1 15 "QueueReader$Net" "asks" "I", Cond.methodLink RX4 130 yX1_isStep, Cond.instanceMethod yX1_isStep, Cond.selects RX1 yX1_isStep yX1_isStep, Cond.code yX1_isStep cX1_isStep 2 (some .boolean), Cond.fieldLink RX1 40 "QueueReader$Net" "stepPlaces" "[I", Cond.methodLink RX4 103 yX3_tell, Cond.instanceMethod yX3_tell, Cond.selects RX3 yX3_tell yX3_tell, Cond.initialized RX3, Cond.code yX3_tell cX3_tell 4 none]
def wsX4_trace_r5 : List Cond := [Cond.fieldLink RX3 9 "QueueReader$Tracks" "isSeen" "[Z", Cond.fieldLink RX3 15 "QueueReader$Tracks" "begun" "[I", Cond.fieldLink RX3 19 "QueueReader$Tracks" "done" "[I"]
def wsX4_trace : List Cond := .code yX4_trace cX4_trace 2 (some .int) :: ((wsX4_trace_r1 ++ (wsX4_trace_r2 ++ (wsX4_trace_r3 ++ (wsX4_trace_r4 ++ wsX4_trace_r5)))) ++ wsX40 ++ wsX20 ++ wsX10 ++ wsX30)
def wsX4_unlike_r1 : List Cond := [Cond.fieldLink RX4 12 "QueueReader" "net" "LQueueReader$Net;", Cond.fieldLink RX4 19 "QueueReader" "told" "LQueueReader$Tracks;", Cond.fieldLink RX4 106 "QueueReader$Tracks" "isSeen" "[Z", Cond.fieldLink RX4 137 "QueueReader$Tracks" "begun" "[I", Cond.fieldLink RX4 33 "QueueReader" "play" "LQueueReader$Play;", Cond.fieldLink RX4 120 "QueueReader$Play" "begun" "[I", Cond.fieldLink RX4 138 "QueueReader$Tracks" "done" "[I", Cond.fieldLink RX4 123 "QueueReader$Play" "done" "[I", Cond.methodLink RX4 114 yX4_refreshPlay, Cond.instanceMethod yX4_refreshPlay, Cond.selects RX4 yX4_refreshPlay yX4_refreshPlay, Cond.initialized RX4, Cond.code yX4_refreshPlay cX4_refreshPlay 1 none, Cond.fieldLink RX4 40 "QueueReader" "isPlayFresh" "Z", Cond.methodLink RX4 210 yX2_run, Cond.instanceMethod yX2_run, Cond.selects RX2 yX2_run yX2_run, Cond.initialized RX2, Cond.code yX2_run cX2_run 6 none, Cond.constant RX2 44 (1000000000), Cond.fieldLink RX2 48 "QueueReader$Net" "places" "I", Cond.methodLink RX2 36 yX2_open, Cond.instanceMethod yX2_open, Cond.selects RX2 yX2_open yX2_open]
def wsX4_unlike_r2 : List Cond := [Cond.code yX2_open cX2_open 4 none, Cond.fieldLink RX2 30 "QueueReader$Play" "free" "[I", Cond.fieldLink RX2 74 "QueueReader$Net" "helpers" "[I", Cond.fieldLink RX2 33 "QueueReader$Play" "waiting" "[I", Cond.fieldLink RX2 58 "QueueReader$Net" "asks" "I", Cond.fieldLink RX2 21 "QueueReader$Play" "states" "[I", Cond.fieldLink RX2 24 "QueueReader$Play" "rows" "[I", Cond.fieldLink RX2 27 "QueueReader$Play" "dues" "[I", Cond.fieldLink RX2 65 "QueueReader$Net" "starts" "[I", Cond.methodLink RX2 77 yX1_firstRow, Cond.instanceMethod yX1_firstRow, Cond.selects RX1 yX1_firstRow yX1_firstRow, Cond.initialized RX1, Cond.code yX1_firstRow cX1_firstRow 2 (some .int), Cond.methodLink RX2 40 yX2_nextTick, Cond.instanceMethod yX2_nextTick, Cond.selects RX2 yX2_nextTick yX2_nextTick, Cond.code yX2_nextTick cX2_nextTick 4 (some .int), Cond.methodLink RX2 80 Lib.Math.min.name, Cond.static Lib.Math.min.name, Cond.initialized "java/lang/Math", Cond.code Lib.Math.min.name Lib.Math.min.code 2 (some .int), Cond.methodLink RX2 45 yX2_advance, Cond.instanceMethod yX2_advance]
def wsX4_unlike_r3 : List Cond := [Cond.selects RX2 yX2_advance yX2_advance, Cond.code yX2_advance cX2_advance 4 none, Cond.methodLink RX2 83 yX2_finish, Cond.instanceMethod yX2_finish, Cond.selects RX2 yX2_finish yX2_finish, Cond.code yX2_finish cX2_finish 6 none, Cond.fieldLink RX2 89 "QueueReader$Net" "stepPlaces" "[I", Cond.fieldLink RX2 92 "QueueReader$Net" "delays" "[I", Cond.methodLink RX2 61 yX1_lastRow, Cond.instanceMethod yX1_lastRow, Cond.selects RX1 yX1_lastRow yX1_lastRow, Cond.code yX1_lastRow cX1_lastRow 2 (some .int), Cond.fieldLink RX1 37 "QueueReader$Net" "lengths" "[I", Cond.methodLink RX1 52 yX1_firstRow, Cond.methodLink RX2 86 yX2_arrive, Cond.instanceMethod yX2_arrive, Cond.selects RX2 yX2_arrive yX2_arrive, Cond.code yX2_arrive cX2_arrive 5 none, Cond.fieldLink RX2 9 "QueueReader$Play" "came" "[I", Cond.methodLink RX2 54 yX2_beginAt, Cond.instanceMethod yX2_beginAt, Cond.selects RX2 yX2_beginAt yX2_beginAt, Cond.code yX2_beginAt cX2_beginAt 7 none, Cond.fieldLink RX2 15 "QueueReader$Play" "begun" "[I"]
def wsX4_unlike_r4 : List Cond := [Cond.fieldLink RX2 18 "QueueReader$Play" "done" "[I", Cond.fieldLink RX2 99 "QueueReader$Net" "stepWorks" "[I", Cond.methodLink RX2 95 yX2_firstWaiting, Cond.instanceMethod yX2_firstWaiting, Cond.selects RX2 yX2_firstWaiting yX2_firstWaiting, Cond.code yX2_firstWaiting cX2_firstWaiting 10 (some .int), Cond.fieldLink RX2 102 "QueueReader$Net" "rules" "[I", Cond.fieldLink RX2 105 "QueueReader$Net" "kinds" "[I", Cond.static yX4_rank, Cond.code yX4_rank cX4_rank 4 (some .long), Cond.constantLong RX4 230 (1000000000), Cond.methodLink RX4 126 yX1_rowsEnd, Cond.instanceMethod yX1_rowsEnd, Cond.selects RX1 yX1_rowsEnd yX1_rowsEnd, Cond.code yX1_rowsEnd cX1_rowsEnd 1 (some .int), Cond.fieldLink RX1 15 "QueueReader$Net" "asks" "I"]
def wsX4_unlike : List Cond := .code yX4_unlike cX4_unlike 3 (some .int) :: ((wsX4_unlike_r1 ++ (wsX4_unlike_r2 ++ (wsX4_unlike_r3 ++ wsX4_unlike_r4))) ++ wsX40 ++ wsX30 ++ wsX20 ++ wsX10)
def wsX4_found_r1 : List Cond := [Cond.fieldLink RX4 26 "QueueReader" "fit" "LQueueReader$Fit;", Cond.fieldLink RX4 12 "QueueReader" "net" "LQueueReader$Net;", Cond.fieldLink RX4 19 "QueueReader" "told" "LQueueReader$Tracks;", Cond.methodLink RX4 63 yX4_needPlace, Cond.instanceMethod yX4_needPlace, Cond.selects RX4 yX4_needPlace yX4_needPlace, Cond.initialized RX4, Cond.code yX4_needPlace cX4_needPlace 2 none, Cond.classLink RX4 214 "java/lang/IndexOutOfBoundsException", Cond.initialized "java/lang/IndexOutOfBoundsException", Cond.fieldLink RX4 48 "QueueReader$Net" "places" "I", Cond.methodLink RX4 139 yX0_gather, Cond.instanceMethod yX0_gather, Cond.selects RX0 yX0_gather yX0_gather, Cond.initialized RX0, Cond.code yX0_gather cX0_gather 6 none, Cond.fieldLink RX0 9 "QueueReader$Fit" "size" "I", Cond.fieldLink RX0 15 "QueueReader$Fit" "isWhole" "Z", Cond.fieldLink RX0 42 "QueueReader$Net" "stepPlaces" "[I", Cond.fieldLink RX0 51 "QueueReader$Tracks" "isSeen" "[Z", Cond.fieldLink RX0 19 "QueueReader$Fit" "came" "[I", Cond.fieldLink RX0 23 "QueueReader$Fit" "begun" "[I", Cond.fieldLink RX0 55 "QueueReader$Tracks" "begun" "[I", Cond.fieldLink RX0 26 "QueueReader$Fit" "done" "[I"]
def wsX4_found_r2 : List Cond := [Cond.fieldLink RX0 56 "QueueReader$Tracks" "done" "[I", Cond.fieldLink RX0 29 "QueueReader$Fit" "kinds" "[I", Cond.fieldLink RX0 57 "QueueReader$Net" "kinds" "[I", Cond.methodLink RX0 36 yX1_rowsEnd, Cond.instanceMethod yX1_rowsEnd, Cond.selects RX1 yX1_rowsEnd yX1_rowsEnd, Cond.initialized RX1, Cond.code yX1_rowsEnd cX1_rowsEnd 1 (some .int), Cond.fieldLink RX1 15 "QueueReader$Net" "asks" "I", Cond.methodLink RX0 45 yX3_cameOf, Cond.instanceMethod yX3_cameOf, Cond.selects RX3 yX3_cameOf yX3_cameOf, Cond.initialized RX3, Cond.code yX3_cameOf cX3_cameOf 4 (some .int), Cond.fieldLink RX3 9 "QueueReader$Tracks" "isSeen" "[Z", Cond.fieldLink RX3 28 "QueueReader$Net" "starts" "[I", Cond.fieldLink RX3 19 "QueueReader$Tracks" "done" "[I", Cond.fieldLink RX3 31 "QueueReader$Net" "delays" "[I", Cond.fieldLink RX3 34 "QueueReader$Net" "stepPlaces" "[I", Cond.methodLink RX4 143 yX0_firstRule, Cond.instanceMethod yX0_firstRule, Cond.selects RX0 yX0_firstRule yX0_firstRule, Cond.code yX0_firstRule cX0_firstRule 2 (some .int), Cond.methodLink RX0 71 yX0_mostAtOnce]
def wsX4_found_r3 : List Cond := [Cond.instanceMethod yX0_mostAtOnce, Cond.selects RX0 yX0_mostAtOnce yX0_mostAtOnce, Cond.code yX0_mostAtOnce cX0_mostAtOnce 3 (some .int), Cond.methodLink RX0 62 Lib.Math.max.name, Cond.static Lib.Math.max.name, Cond.initialized "java/lang/Math", Cond.code Lib.Math.max.name Lib.Math.max.code 2 (some .int), Cond.methodLink RX0 58 yX0_helpedAt, Cond.instanceMethod yX0_helpedAt, Cond.selects RX0 yX0_helpedAt yX0_helpedAt, Cond.code yX0_helpedAt cX0_helpedAt 4 (some .int), Cond.methodLink RX0 74 yX0_isPossible, Cond.instanceMethod yX0_isPossible, Cond.selects RX0 yX0_isPossible yX0_isPossible, Cond.code yX0_isPossible cX0_isPossible 3 (some .boolean), Cond.methodLink RX0 81 yX0_isIdleAt, Cond.instanceMethod yX0_isIdleAt, Cond.selects RX0 yX0_isIdleAt yX0_isIdleAt, Cond.code yX0_isIdleAt cX0_isIdleAt 4 (some .boolean), Cond.methodLink RX0 85 yX0_isLeftAt, Cond.instanceMethod yX0_isLeftAt, Cond.selects RX0 yX0_isLeftAt yX0_isLeftAt, Cond.code yX0_isLeftAt cX0_isLeftAt 3 (some .boolean), Cond.methodLink RX0 78 yX0_isOrderedBy]
def wsX4_found_r4 : List Cond := [Cond.instanceMethod yX0_isOrderedBy, Cond.selects RX0 yX0_isOrderedBy yX0_isOrderedBy, Cond.code yX0_isOrderedBy cX0_isOrderedBy 4 (some .boolean), Cond.fieldLink RX0 32 "QueueReader$Fit" "ranks" "[J", Cond.static yX4_rank, Cond.code yX4_rank cX4_rank 4 (some .long), Cond.constantLong RX4 230 (1000000000), Cond.methodLink RX0 92 yX0_isAhead, Cond.instanceMethod yX0_isAhead, Cond.selects RX0 yX0_isAhead yX0_isAhead, Cond.code yX0_isAhead cX0_isAhead 3 (some .boolean), Cond.methodLink RX4 146 yX0_leastHelpers, Cond.instanceMethod yX0_leastHelpers, Cond.selects RX0 yX0_leastHelpers yX0_leastHelpers, Cond.code yX0_leastHelpers cX0_leastHelpers 1 (some .int), Cond.methodLink RX0 68 yX0_firstRule]
def wsX4_found : List Cond := .code yX4_found cX4_found 3 (some .int) :: ((wsX4_found_r1 ++ (wsX4_found_r2 ++ (wsX4_found_r3 ++ wsX4_found_r4))) ++ wsX40 ++ wsX10 ++ wsX00 ++ wsX30 ++ (vx_atS RX4 218 "java/lang/IndexOutOfBoundsException" ["java/lang/RuntimeException", "java/lang/Exception"]).filter goodWord)
def wsX4_overlap_r1 : List Cond := [Cond.fieldLink RX4 26 "QueueReader" "fit" "LQueueReader$Fit;", Cond.fieldLink RX4 12 "QueueReader" "net" "LQueueReader$Net;", Cond.fieldLink RX4 19 "QueueReader" "told" "LQueueReader$Tracks;", Cond.methodLink RX4 63 yX4_needPlace, Cond.instanceMethod yX4_needPlace, Cond.selects RX4 yX4_needPlace yX4_needPlace, Cond.initialized RX4, Cond.code yX4_needPlace cX4_needPlace 2 none, Cond.classLink RX4 214 "java/lang/IndexOutOfBoundsException", Cond.initialized "java/lang/IndexOutOfBoundsException", Cond.fieldLink RX4 48 "QueueReader$Net" "places" "I", Cond.methodLink RX4 139 yX0_gather, Cond.instanceMethod yX0_gather, Cond.selects RX0 yX0_gather yX0_gather, Cond.initialized RX0, Cond.code yX0_gather cX0_gather 6 none, Cond.fieldLink RX0 9 "QueueReader$Fit" "size" "I", Cond.fieldLink RX0 15 "QueueReader$Fit" "isWhole" "Z", Cond.fieldLink RX0 42 "QueueReader$Net" "stepPlaces" "[I", Cond.fieldLink RX0 51 "QueueReader$Tracks" "isSeen" "[Z", Cond.fieldLink RX0 19 "QueueReader$Fit" "came" "[I", Cond.fieldLink RX0 23 "QueueReader$Fit" "begun" "[I", Cond.fieldLink RX0 55 "QueueReader$Tracks" "begun" "[I", Cond.fieldLink RX0 26 "QueueReader$Fit" "done" "[I"]
def wsX4_overlap_r2 : List Cond := [Cond.fieldLink RX0 56 "QueueReader$Tracks" "done" "[I", Cond.fieldLink RX0 29 "QueueReader$Fit" "kinds" "[I", Cond.fieldLink RX0 57 "QueueReader$Net" "kinds" "[I", Cond.methodLink RX0 36 yX1_rowsEnd, Cond.instanceMethod yX1_rowsEnd, Cond.selects RX1 yX1_rowsEnd yX1_rowsEnd, Cond.initialized RX1, Cond.code yX1_rowsEnd cX1_rowsEnd 1 (some .int), Cond.fieldLink RX1 15 "QueueReader$Net" "asks" "I", Cond.methodLink RX0 45 yX3_cameOf, Cond.instanceMethod yX3_cameOf, Cond.selects RX3 yX3_cameOf yX3_cameOf, Cond.initialized RX3, Cond.code yX3_cameOf cX3_cameOf 4 (some .int), Cond.fieldLink RX3 9 "QueueReader$Tracks" "isSeen" "[Z", Cond.fieldLink RX3 28 "QueueReader$Net" "starts" "[I", Cond.fieldLink RX3 19 "QueueReader$Tracks" "done" "[I", Cond.fieldLink RX3 31 "QueueReader$Net" "delays" "[I", Cond.fieldLink RX3 34 "QueueReader$Net" "stepPlaces" "[I", Cond.methodLink RX4 149 yX0_mostAtOnce, Cond.instanceMethod yX0_mostAtOnce, Cond.selects RX0 yX0_mostAtOnce yX0_mostAtOnce, Cond.code yX0_mostAtOnce cX0_mostAtOnce 3 (some .int), Cond.methodLink RX0 62 Lib.Math.max.name]
def wsX4_overlap_r3 : List Cond := [Cond.static Lib.Math.max.name, Cond.initialized "java/lang/Math", Cond.code Lib.Math.max.name Lib.Math.max.code 2 (some .int), Cond.methodLink RX0 58 yX0_helpedAt, Cond.instanceMethod yX0_helpedAt, Cond.selects RX0 yX0_helpedAt yX0_helpedAt, Cond.code yX0_helpedAt cX0_helpedAt 4 (some .int)]
def wsX4_overlap : List Cond := .code yX4_overlap cX4_overlap 2 (some .int) :: ((wsX4_overlap_r1 ++ (wsX4_overlap_r2 ++ wsX4_overlap_r3)) ++ wsX40 ++ wsX10 ++ wsX00 ++ wsX30 ++ (vx_atS RX4 218 "java/lang/IndexOutOfBoundsException" ["java/lang/RuntimeException", "java/lang/Exception"]).filter goodWord)
def wsX4_ticksShared : List Cond := .code yX4_ticksShared cX4_ticksShared 4 (some .int) :: ([.methodLink RX4 202 Lib.Math.min.name, .static Lib.Math.min.name, .initialized "java/lang/Math", .code Lib.Math.min.name Lib.Math.min.code 2 (some .int), .methodLink RX4 207 Lib.Math.max.name, .static Lib.Math.max.name, .code Lib.Math.max.name Lib.Math.max.code 2 (some .int)])
def wsX4_share : List Cond := .code yX4_share cX4_share 6 (some .int) :: ([.methodLink RX4 198 yX4_ticksShared, .static yX4_ticksShared, .initialized RX4, .code yX4_ticksShared cX4_ticksShared 4 (some .int), .methodLink RX4 202 Lib.Math.min.name, .static Lib.Math.min.name, .initialized "java/lang/Math", .code Lib.Math.min.name Lib.Math.min.code 2 (some .int), .methodLink RX4 207 Lib.Math.max.name, .static Lib.Math.max.name, .code Lib.Math.max.name Lib.Math.max.code 2 (some .int)])
def wsX4_countsByTracks_r1 : List Cond := [Cond.fieldLink RX4 12 "QueueReader" "net" "LQueueReader$Net;", Cond.fieldLink RX4 180 "QueueReader$Net" "stepPlaces" "[I", Cond.fieldLink RX4 19 "QueueReader" "told" "LQueueReader$Tracks;", Cond.fieldLink RX4 137 "QueueReader$Tracks" "begun" "[I", Cond.fieldLink RX4 138 "QueueReader$Tracks" "done" "[I", Cond.methodLink RX4 126 yX1_rowsEnd, Cond.instanceMethod yX1_rowsEnd, Cond.selects RX1 yX1_rowsEnd yX1_rowsEnd, Cond.initialized RX1, Cond.code yX1_rowsEnd cX1_rowsEnd 1 (some .int), Cond.fieldLink RX1 15 "QueueReader$Net" "asks" "I", Cond.methodLink RX4 194 yX3_cameOf, Cond.instanceMethod yX3_cameOf, Cond.selects RX3 yX3_cameOf yX3_cameOf, Cond.initialized RX3, Cond.code yX3_cameOf cX3_cameOf 4 (some .int), Cond.fieldLink RX3 9 "QueueReader$Tracks" "isSeen" "[Z", Cond.fieldLink RX3 28 "QueueReader$Net" "starts" "[I", Cond.fieldLink RX3 19 "QueueReader$Tracks" "done" "[I", Cond.fieldLink RX3 31 "QueueReader$Net" "delays" "[I", Cond.fieldLink RX3 34 "QueueReader$Net" "stepPlaces" "[I", Cond.methodLink RX4 190 yX4_share, Cond.static yX4_share, Cond.initialized RX4]
def wsX4_countsByTracks_r2 : List Cond := [Cond.code yX4_share cX4_share 6 (some .int), Cond.methodLink RX4 198 yX4_ticksShared, Cond.static yX4_ticksShared, Cond.code yX4_ticksShared cX4_ticksShared 4 (some .int), Cond.methodLink RX4 202 Lib.Math.min.name, Cond.static Lib.Math.min.name, Cond.initialized "java/lang/Math", Cond.code Lib.Math.min.name Lib.Math.min.code 2 (some .int), Cond.methodLink RX4 207 Lib.Math.max.name, Cond.static Lib.Math.max.name, Cond.code Lib.Math.max.name Lib.Math.max.code 2 (some .int)]
def wsX4_countsByTracks : List Cond := .code yX4_countsByTracks cX4_countsByTracks 9 (some .long) :: ((wsX4_countsByTracks_r1 ++ wsX4_countsByTracks_r2) ++ wsX40 ++ wsX10 ++ wsX30)
def wsX4_countsByPlay_r1 : List Cond := [Cond.fieldLink RX4 12 "QueueReader" "net" "LQueueReader$Net;", Cond.fieldLink RX4 180 "QueueReader$Net" "stepPlaces" "[I", Cond.fieldLink RX4 33 "QueueReader" "play" "LQueueReader$Play;", Cond.fieldLink RX4 117 "QueueReader$Play" "came" "[I", Cond.fieldLink RX4 120 "QueueReader$Play" "begun" "[I", Cond.fieldLink RX4 123 "QueueReader$Play" "done" "[I", Cond.methodLink RX4 114 yX4_refreshPlay, Cond.instanceMethod yX4_refreshPlay, Cond.selects RX4 yX4_refreshPlay yX4_refreshPlay, Cond.initialized RX4, Cond.code yX4_refreshPlay cX4_refreshPlay 1 none, Cond.fieldLink RX4 40 "QueueReader" "isPlayFresh" "Z", Cond.methodLink RX4 210 yX2_run, Cond.instanceMethod yX2_run, Cond.selects RX2 yX2_run yX2_run, Cond.initialized RX2, Cond.code yX2_run cX2_run 6 none, Cond.constant RX2 44 (1000000000), Cond.fieldLink RX2 48 "QueueReader$Net" "places" "I", Cond.methodLink RX2 36 yX2_open, Cond.instanceMethod yX2_open, Cond.selects RX2 yX2_open yX2_open, Cond.code yX2_open cX2_open 4 none, Cond.fieldLink RX2 30 "QueueReader$Play" "free" "[I"]
def wsX4_countsByPlay_r2 : List Cond := [Cond.fieldLink RX2 74 "QueueReader$Net" "helpers" "[I", Cond.fieldLink RX2 33 "QueueReader$Play" "waiting" "[I", Cond.fieldLink RX2 58 "QueueReader$Net" "asks" "I", Cond.fieldLink RX2 21 "QueueReader$Play" "states" "[I", Cond.fieldLink RX2 24 "QueueReader$Play" "rows" "[I", Cond.fieldLink RX2 27 "QueueReader$Play" "dues" "[I", Cond.fieldLink RX2 65 "QueueReader$Net" "starts" "[I", Cond.methodLink RX2 77 yX1_firstRow, Cond.instanceMethod yX1_firstRow, Cond.selects RX1 yX1_firstRow yX1_firstRow, Cond.initialized RX1, Cond.code yX1_firstRow cX1_firstRow 2 (some .int), Cond.methodLink RX2 40 yX2_nextTick, Cond.instanceMethod yX2_nextTick, Cond.selects RX2 yX2_nextTick yX2_nextTick, Cond.code yX2_nextTick cX2_nextTick 4 (some .int), Cond.methodLink RX2 80 Lib.Math.min.name, Cond.static Lib.Math.min.name, Cond.initialized "java/lang/Math", Cond.code Lib.Math.min.name Lib.Math.min.code 2 (some .int), Cond.methodLink RX2 45 yX2_advance, Cond.instanceMethod yX2_advance, Cond.selects RX2 yX2_advance yX2_advance, Cond.code yX2_advance cX2_advance 4 none]
def wsX4_countsByPlay_r3 : List Cond := [Cond.methodLink RX2 83 yX2_finish, Cond.instanceMethod yX2_finish, Cond.selects RX2 yX2_finish yX2_finish, Cond.code yX2_finish cX2_finish 6 none, Cond.fieldLink RX2 89 "QueueReader$Net" "stepPlaces" "[I", Cond.fieldLink RX2 92 "QueueReader$Net" "delays" "[I", Cond.methodLink RX2 61 yX1_lastRow, Cond.instanceMethod yX1_lastRow, Cond.selects RX1 yX1_lastRow yX1_lastRow, Cond.code yX1_lastRow cX1_lastRow 2 (some .int), Cond.fieldLink RX1 37 "QueueReader$Net" "lengths" "[I", Cond.methodLink RX1 52 yX1_firstRow, Cond.methodLink RX2 86 yX2_arrive, Cond.instanceMethod yX2_arrive, Cond.selects RX2 yX2_arrive yX2_arrive, Cond.code yX2_arrive cX2_arrive 5 none, Cond.fieldLink RX2 9 "QueueReader$Play" "came" "[I", Cond.methodLink RX2 54 yX2_beginAt, Cond.instanceMethod yX2_beginAt, Cond.selects RX2 yX2_beginAt yX2_beginAt, Cond.code yX2_beginAt cX2_beginAt 7 none, Cond.fieldLink RX2 15 "QueueReader$Play" "begun" "[I", Cond.fieldLink RX2 18 "QueueReader$Play" "done" "[I", Cond.fieldLink RX2 99 "QueueReader$Net" "stepWorks" "[I"]
def wsX4_countsByPlay_r4 : List Cond := [Cond.methodLink RX2 95 yX2_firstWaiting, Cond.instanceMethod yX2_firstWaiting, Cond.selects RX2 yX2_firstWaiting yX2_firstWaiting, Cond.code yX2_firstWaiting cX2_firstWaiting 10 (some .int), Cond.fieldLink RX2 102 "QueueReader$Net" "rules" "[I", Cond.fieldLink RX2 105 "QueueReader$Net" "kinds" "[I", Cond.static yX4_rank, Cond.code yX4_rank cX4_rank 4 (some .long), Cond.constantLong RX4 230 (1000000000), Cond.methodLink RX4 126 yX1_rowsEnd, Cond.instanceMethod yX1_rowsEnd, Cond.selects RX1 yX1_rowsEnd yX1_rowsEnd, Cond.code yX1_rowsEnd cX1_rowsEnd 1 (some .int), Cond.fieldLink RX1 15 "QueueReader$Net" "asks" "I", Cond.methodLink RX4 190 yX4_share, Cond.static yX4_share, Cond.code yX4_share cX4_share 6 (some .int), Cond.methodLink RX4 198 yX4_ticksShared, Cond.static yX4_ticksShared, Cond.code yX4_ticksShared cX4_ticksShared 4 (some .int), Cond.methodLink RX4 202 Lib.Math.min.name, Cond.methodLink RX4 207 Lib.Math.max.name, Cond.static Lib.Math.max.name, Cond.code Lib.Math.max.name Lib.Math.max.code 2 (some .int)]
def wsX4_countsByPlay : List Cond := .code yX4_countsByPlay cX4_countsByPlay 8 (some .long) :: ((wsX4_countsByPlay_r1 ++ (wsX4_countsByPlay_r2 ++ (wsX4_countsByPlay_r3 ++ wsX4_countsByPlay_r4))) ++ wsX40 ++ wsX10 ++ wsX20)
def wsX4_counts_r1 : List Cond := [Cond.constant RX4 97 (10000000), Cond.methodLink RX4 63 yX4_needPlace, Cond.instanceMethod yX4_needPlace, Cond.selects RX4 yX4_needPlace yX4_needPlace, Cond.initialized RX4, Cond.code yX4_needPlace cX4_needPlace 2 none, Cond.classLink RX4 214 "java/lang/IndexOutOfBoundsException", Cond.initialized "java/lang/IndexOutOfBoundsException", Cond.fieldLink RX4 12 "QueueReader" "net" "LQueueReader$Net;", Cond.fieldLink RX4 48 "QueueReader$Net" "places" "I", Cond.methodLink RX4 67 yX4_needWithin, Cond.static yX4_needWithin, Cond.code yX4_needWithin cX4_needWithin 3 none, Cond.classLink RX4 98 "java/lang/IllegalArgumentException", Cond.initialized "java/lang/IllegalArgumentException", Cond.methodLink RX4 110 yX4_needWhat, Cond.static yX4_needWhat, Cond.code yX4_needWhat cX4_needWhat 2 none, Cond.classLink RX4 225 "java/util/NoSuchElementException", Cond.initialized "java/util/NoSuchElementException", Cond.methodLink RX4 152 yX4_countsByTracks, Cond.instanceMethod yX4_countsByTracks, Cond.selects RX4 yX4_countsByTracks yX4_countsByTracks, Cond.code yX4_countsByTracks cX4_countsByTracks 9 (some .long)]
def wsX4_counts_r2 : List Cond := [Cond.fieldLink RX4 180 "QueueReader$Net" "stepPlaces" "[I", Cond.fieldLink RX4 19 "QueueReader" "told" "LQueueReader$Tracks;", Cond.fieldLink RX4 137 "QueueReader$Tracks" "begun" "[I", Cond.fieldLink RX4 138 "QueueReader$Tracks" "done" "[I", Cond.methodLink RX4 126 yX1_rowsEnd, Cond.instanceMethod yX1_rowsEnd, Cond.selects RX1 yX1_rowsEnd yX1_rowsEnd, Cond.initialized RX1, Cond.code yX1_rowsEnd cX1_rowsEnd 1 (some .int), Cond.fieldLink RX1 15 "QueueReader$Net" "asks" "I", Cond.methodLink RX4 194 yX3_cameOf, Cond.instanceMethod yX3_cameOf, Cond.selects RX3 yX3_cameOf yX3_cameOf, Cond.initialized RX3, Cond.code yX3_cameOf cX3_cameOf 4 (some .int), Cond.fieldLink RX3 9 "QueueReader$Tracks" "isSeen" "[Z", Cond.fieldLink RX3 28 "QueueReader$Net" "starts" "[I", Cond.fieldLink RX3 19 "QueueReader$Tracks" "done" "[I", Cond.fieldLink RX3 31 "QueueReader$Net" "delays" "[I", Cond.fieldLink RX3 34 "QueueReader$Net" "stepPlaces" "[I", Cond.methodLink RX4 190 yX4_share, Cond.static yX4_share, Cond.code yX4_share cX4_share 6 (some .int), Cond.methodLink RX4 198 yX4_ticksShared]
def wsX4_counts_r3 : List Cond := [Cond.static yX4_ticksShared, Cond.code yX4_ticksShared cX4_ticksShared 4 (some .int), Cond.methodLink RX4 202 Lib.Math.min.name, Cond.static Lib.Math.min.name, Cond.initialized "java/lang/Math", Cond.code Lib.Math.min.name Lib.Math.min.code 2 (some .int), Cond.methodLink RX4 207 Lib.Math.max.name, Cond.static Lib.Math.max.name, Cond.code Lib.Math.max.name Lib.Math.max.code 2 (some .int), Cond.methodLink RX4 156 yX4_countsByPlay, Cond.instanceMethod yX4_countsByPlay, Cond.selects RX4 yX4_countsByPlay yX4_countsByPlay, Cond.code yX4_countsByPlay cX4_countsByPlay 8 (some .long), Cond.fieldLink RX4 33 "QueueReader" "play" "LQueueReader$Play;", Cond.fieldLink RX4 117 "QueueReader$Play" "came" "[I", Cond.fieldLink RX4 120 "QueueReader$Play" "begun" "[I", Cond.fieldLink RX4 123 "QueueReader$Play" "done" "[I", Cond.methodLink RX4 114 yX4_refreshPlay, Cond.instanceMethod yX4_refreshPlay, Cond.selects RX4 yX4_refreshPlay yX4_refreshPlay, Cond.code yX4_refreshPlay cX4_refreshPlay 1 none, Cond.fieldLink RX4 40 "QueueReader" "isPlayFresh" "Z", Cond.methodLink RX4 210 yX2_run, Cond.instanceMethod yX2_run]
def wsX4_counts_r4 : List Cond := [Cond.selects RX2 yX2_run yX2_run, Cond.initialized RX2, Cond.code yX2_run cX2_run 6 none, Cond.constant RX2 44 (1000000000), Cond.fieldLink RX2 48 "QueueReader$Net" "places" "I", Cond.methodLink RX2 36 yX2_open, Cond.instanceMethod yX2_open, Cond.selects RX2 yX2_open yX2_open, Cond.code yX2_open cX2_open 4 none, Cond.fieldLink RX2 30 "QueueReader$Play" "free" "[I", Cond.fieldLink RX2 74 "QueueReader$Net" "helpers" "[I", Cond.fieldLink RX2 33 "QueueReader$Play" "waiting" "[I", Cond.fieldLink RX2 58 "QueueReader$Net" "asks" "I", Cond.fieldLink RX2 21 "QueueReader$Play" "states" "[I", Cond.fieldLink RX2 24 "QueueReader$Play" "rows" "[I", Cond.fieldLink RX2 27 "QueueReader$Play" "dues" "[I", Cond.fieldLink RX2 65 "QueueReader$Net" "starts" "[I", Cond.methodLink RX2 77 yX1_firstRow, Cond.instanceMethod yX1_firstRow, Cond.selects RX1 yX1_firstRow yX1_firstRow, Cond.code yX1_firstRow cX1_firstRow 2 (some .int), Cond.methodLink RX2 40 yX2_nextTick, Cond.instanceMethod yX2_nextTick, Cond.selects RX2 yX2_nextTick yX2_nextTick]
def wsX4_counts_r5 : List Cond := [Cond.code yX2_nextTick cX2_nextTick 4 (some .int), Cond.methodLink RX2 80 Lib.Math.min.name, Cond.methodLink RX2 45 yX2_advance, Cond.instanceMethod yX2_advance, Cond.selects RX2 yX2_advance yX2_advance, Cond.code yX2_advance cX2_advance 4 none, Cond.methodLink RX2 83 yX2_finish, Cond.instanceMethod yX2_finish, Cond.selects RX2 yX2_finish yX2_finish, Cond.code yX2_finish cX2_finish 6 none, Cond.fieldLink RX2 89 "QueueReader$Net" "stepPlaces" "[I", Cond.fieldLink RX2 92 "QueueReader$Net" "delays" "[I", Cond.methodLink RX2 61 yX1_lastRow, Cond.instanceMethod yX1_lastRow, Cond.selects RX1 yX1_lastRow yX1_lastRow, Cond.code yX1_lastRow cX1_lastRow 2 (some .int), Cond.fieldLink RX1 37 "QueueReader$Net" "lengths" "[I", Cond.methodLink RX1 52 yX1_firstRow, Cond.methodLink RX2 86 yX2_arrive, Cond.instanceMethod yX2_arrive, Cond.selects RX2 yX2_arrive yX2_arrive, Cond.code yX2_arrive cX2_arrive 5 none, Cond.fieldLink RX2 9 "QueueReader$Play" "came" "[I", Cond.methodLink RX2 54 yX2_beginAt]
def wsX4_counts_r6 : List Cond := [Cond.instanceMethod yX2_beginAt, Cond.selects RX2 yX2_beginAt yX2_beginAt, Cond.code yX2_beginAt cX2_beginAt 7 none, Cond.fieldLink RX2 15 "QueueReader$Play" "begun" "[I", Cond.fieldLink RX2 18 "QueueReader$Play" "done" "[I", Cond.fieldLink RX2 99 "QueueReader$Net" "stepWorks" "[I", Cond.methodLink RX2 95 yX2_firstWaiting, Cond.instanceMethod yX2_firstWaiting, Cond.selects RX2 yX2_firstWaiting yX2_firstWaiting, Cond.code yX2_firstWaiting cX2_firstWaiting 10 (some .int), Cond.fieldLink RX2 102 "QueueReader$Net" "rules" "[I", Cond.fieldLink RX2 105 "QueueReader$Net" "kinds" "[I", Cond.static yX4_rank, Cond.code yX4_rank cX4_rank 4 (some .long), Cond.constantLong RX4 230 (1000000000)]
def wsX4_counts : List Cond := .code yX4_counts cX4_counts 6 (some .long) :: ((wsX4_counts_r1 ++ (wsX4_counts_r2 ++ (wsX4_counts_r3 ++ (wsX4_counts_r4 ++ (wsX4_counts_r5 ++ wsX4_counts_r6))))) ++ wsX40 ++ wsX10 ++ wsX30 ++ wsX20 ++ (vx_atS RX4 218 "java/lang/IndexOutOfBoundsException" ["java/lang/RuntimeException", "java/lang/Exception"]).filter goodWord ++ (vx_atS RX4 102 "java/lang/IllegalArgumentException" ["java/lang/RuntimeException", "java/lang/Exception"]).filter goodWord ++ (vx_atS RX4 229 "java/util/NoSuchElementException" ["java/lang/RuntimeException", "java/lang/Exception"]).filter goodWord)
def wsX4_total_r1 : List Cond := [Cond.fieldLink RX4 33 "QueueReader" "play" "LQueueReader$Play;", Cond.fieldLink RX4 12 "QueueReader" "net" "LQueueReader$Net;", Cond.methodLink RX4 114 yX4_refreshPlay, Cond.instanceMethod yX4_refreshPlay, Cond.selects RX4 yX4_refreshPlay yX4_refreshPlay, Cond.initialized RX4, Cond.code yX4_refreshPlay cX4_refreshPlay 1 none, Cond.fieldLink RX4 40 "QueueReader" "isPlayFresh" "Z", Cond.methodLink RX4 210 yX2_run, Cond.instanceMethod yX2_run, Cond.selects RX2 yX2_run yX2_run, Cond.initialized RX2, Cond.code yX2_run cX2_run 6 none, Cond.constant RX2 44 (1000000000), Cond.fieldLink RX2 48 "QueueReader$Net" "places" "I", Cond.methodLink RX2 36 yX2_open, Cond.instanceMethod yX2_open, Cond.selects RX2 yX2_open yX2_open, Cond.code yX2_open cX2_open 4 none, Cond.fieldLink RX2 30 "QueueReader$Play" "free" "[I", Cond.fieldLink RX2 74 "QueueReader$Net" "helpers" "[I", Cond.fieldLink RX2 33 "QueueReader$Play" "waiting" "[I", Cond.fieldLink RX2 58 "QueueReader$Net" "asks" "I", Cond.fieldLink RX2 21 "QueueReader$Play" "states" "[I"]
def wsX4_total_r2 : List Cond := [Cond.fieldLink RX2 24 "QueueReader$Play" "rows" "[I", Cond.fieldLink RX2 27 "QueueReader$Play" "dues" "[I", Cond.fieldLink RX2 65 "QueueReader$Net" "starts" "[I", Cond.methodLink RX2 77 yX1_firstRow, Cond.instanceMethod yX1_firstRow, Cond.selects RX1 yX1_firstRow yX1_firstRow, Cond.initialized RX1, Cond.code yX1_firstRow cX1_firstRow 2 (some .int), Cond.methodLink RX2 40 yX2_nextTick, Cond.instanceMethod yX2_nextTick, Cond.selects RX2 yX2_nextTick yX2_nextTick, Cond.code yX2_nextTick cX2_nextTick 4 (some .int), Cond.methodLink RX2 80 Lib.Math.min.name, Cond.static Lib.Math.min.name, Cond.initialized "java/lang/Math", Cond.code Lib.Math.min.name Lib.Math.min.code 2 (some .int), Cond.methodLink RX2 45 yX2_advance, Cond.instanceMethod yX2_advance, Cond.selects RX2 yX2_advance yX2_advance, Cond.code yX2_advance cX2_advance 4 none, Cond.methodLink RX2 83 yX2_finish, Cond.instanceMethod yX2_finish, Cond.selects RX2 yX2_finish yX2_finish, Cond.code yX2_finish cX2_finish 6 none]
def wsX4_total_r3 : List Cond := [Cond.fieldLink RX2 89 "QueueReader$Net" "stepPlaces" "[I", Cond.fieldLink RX2 92 "QueueReader$Net" "delays" "[I", Cond.methodLink RX2 61 yX1_lastRow, Cond.instanceMethod yX1_lastRow, Cond.selects RX1 yX1_lastRow yX1_lastRow, Cond.code yX1_lastRow cX1_lastRow 2 (some .int), Cond.fieldLink RX1 37 "QueueReader$Net" "lengths" "[I", Cond.methodLink RX1 52 yX1_firstRow, Cond.methodLink RX2 86 yX2_arrive, Cond.instanceMethod yX2_arrive, Cond.selects RX2 yX2_arrive yX2_arrive, Cond.code yX2_arrive cX2_arrive 5 none, Cond.fieldLink RX2 9 "QueueReader$Play" "came" "[I", Cond.methodLink RX2 54 yX2_beginAt, Cond.instanceMethod yX2_beginAt, Cond.selects RX2 yX2_beginAt yX2_beginAt, Cond.code yX2_beginAt cX2_beginAt 7 none, Cond.fieldLink RX2 15 "QueueReader$Play" "begun" "[I", Cond.fieldLink RX2 18 "QueueReader$Play" "done" "[I", Cond.fieldLink RX2 99 "QueueReader$Net" "stepWorks" "[I", Cond.methodLink RX2 95 yX2_firstWaiting, Cond.instanceMethod yX2_firstWaiting, Cond.selects RX2 yX2_firstWaiting yX2_firstWaiting, Cond.code yX2_firstWaiting cX2_firstWaiting 10 (some .int)]
def wsX4_total_r4 : List Cond := [Cond.fieldLink RX2 102 "QueueReader$Net" "rules" "[I", Cond.fieldLink RX2 105 "QueueReader$Net" "kinds" "[I", Cond.static yX4_rank, Cond.code yX4_rank cX4_rank 4 (some .long), Cond.constantLong RX4 230 (1000000000), Cond.methodLink RX4 159 yX2_sumOfTimes, Cond.instanceMethod yX2_sumOfTimes, Cond.selects RX2 yX2_sumOfTimes yX2_sumOfTimes, Cond.code yX2_sumOfTimes cX2_sumOfTimes 5 (some .long)]
def wsX4_total : List Cond := .code yX4_total cX4_total 1 (some .long) :: ((wsX4_total_r1 ++ (wsX4_total_r2 ++ (wsX4_total_r3 ++ wsX4_total_r4))) ++ wsX40 ++ wsX10 ++ wsX20)
def wsX4_gainAt_r1 : List Cond := [Cond.fieldLink RX4 37 "QueueReader" "trial" "LQueueReader$Play;", Cond.fieldLink RX4 12 "QueueReader" "net" "LQueueReader$Net;", Cond.fieldLink RX4 33 "QueueReader" "play" "LQueueReader$Play;", Cond.methodLink RX4 210 yX2_run, Cond.instanceMethod yX2_run, Cond.selects RX2 yX2_run yX2_run, Cond.initialized RX2, Cond.code yX2_run cX2_run 6 none, Cond.constant RX2 44 (1000000000), Cond.fieldLink RX2 48 "QueueReader$Net" "places" "I", Cond.methodLink RX2 36 yX2_open, Cond.instanceMethod yX2_open, Cond.selects RX2 yX2_open yX2_open, Cond.code yX2_open cX2_open 4 none, Cond.fieldLink RX2 30 "QueueReader$Play" "free" "[I", Cond.fieldLink RX2 74 "QueueReader$Net" "helpers" "[I", Cond.fieldLink RX2 33 "QueueReader$Play" "waiting" "[I", Cond.fieldLink RX2 58 "QueueReader$Net" "asks" "I", Cond.fieldLink RX2 21 "QueueReader$Play" "states" "[I", Cond.fieldLink RX2 24 "QueueReader$Play" "rows" "[I", Cond.fieldLink RX2 27 "QueueReader$Play" "dues" "[I", Cond.fieldLink RX2 65 "QueueReader$Net" "starts" "[I", Cond.methodLink RX2 77 yX1_firstRow, Cond.instanceMethod yX1_firstRow]
def wsX4_gainAt_r2 : List Cond := [Cond.selects RX1 yX1_firstRow yX1_firstRow, Cond.initialized RX1, Cond.code yX1_firstRow cX1_firstRow 2 (some .int), Cond.methodLink RX2 40 yX2_nextTick, Cond.instanceMethod yX2_nextTick, Cond.selects RX2 yX2_nextTick yX2_nextTick, Cond.code yX2_nextTick cX2_nextTick 4 (some .int), Cond.methodLink RX2 80 Lib.Math.min.name, Cond.static Lib.Math.min.name, Cond.initialized "java/lang/Math", Cond.code Lib.Math.min.name Lib.Math.min.code 2 (some .int), Cond.methodLink RX2 45 yX2_advance, Cond.instanceMethod yX2_advance, Cond.selects RX2 yX2_advance yX2_advance, Cond.code yX2_advance cX2_advance 4 none, Cond.methodLink RX2 83 yX2_finish, Cond.instanceMethod yX2_finish, Cond.selects RX2 yX2_finish yX2_finish, Cond.code yX2_finish cX2_finish 6 none, Cond.fieldLink RX2 89 "QueueReader$Net" "stepPlaces" "[I", Cond.fieldLink RX2 92 "QueueReader$Net" "delays" "[I", Cond.methodLink RX2 61 yX1_lastRow, Cond.instanceMethod yX1_lastRow, Cond.selects RX1 yX1_lastRow yX1_lastRow]
def wsX4_gainAt_r3 : List Cond := [Cond.code yX1_lastRow cX1_lastRow 2 (some .int), Cond.fieldLink RX1 37 "QueueReader$Net" "lengths" "[I", Cond.methodLink RX1 52 yX1_firstRow, Cond.methodLink RX2 86 yX2_arrive, Cond.instanceMethod yX2_arrive, Cond.selects RX2 yX2_arrive yX2_arrive, Cond.code yX2_arrive cX2_arrive 5 none, Cond.fieldLink RX2 9 "QueueReader$Play" "came" "[I", Cond.methodLink RX2 54 yX2_beginAt, Cond.instanceMethod yX2_beginAt, Cond.selects RX2 yX2_beginAt yX2_beginAt, Cond.code yX2_beginAt cX2_beginAt 7 none, Cond.fieldLink RX2 15 "QueueReader$Play" "begun" "[I", Cond.fieldLink RX2 18 "QueueReader$Play" "done" "[I", Cond.fieldLink RX2 99 "QueueReader$Net" "stepWorks" "[I", Cond.methodLink RX2 95 yX2_firstWaiting, Cond.instanceMethod yX2_firstWaiting, Cond.selects RX2 yX2_firstWaiting yX2_firstWaiting, Cond.code yX2_firstWaiting cX2_firstWaiting 10 (some .int), Cond.fieldLink RX2 102 "QueueReader$Net" "rules" "[I", Cond.fieldLink RX2 105 "QueueReader$Net" "kinds" "[I", Cond.static yX4_rank, Cond.initialized RX4, Cond.code yX4_rank cX4_rank 4 (some .long)]
def wsX4_gainAt_r4 : List Cond := [Cond.constantLong RX4 230 (1000000000), Cond.methodLink RX4 159 yX2_sumOfTimes, Cond.instanceMethod yX2_sumOfTimes, Cond.selects RX2 yX2_sumOfTimes yX2_sumOfTimes, Cond.code yX2_sumOfTimes cX2_sumOfTimes 5 (some .long)]
def wsX4_gainAt : List Cond := .code yX4_gainAt cX4_gainAt 2 (some .long) :: ((wsX4_gainAt_r1 ++ (wsX4_gainAt_r2 ++ (wsX4_gainAt_r3 ++ wsX4_gainAt_r4))) ++ wsX40 ++ wsX10 ++ wsX20)
def wsX4_saved_r1 : List Cond := [Cond.methodLink RX4 63 yX4_needPlace, Cond.instanceMethod yX4_needPlace, Cond.selects RX4 yX4_needPlace yX4_needPlace, Cond.initialized RX4, Cond.code yX4_needPlace cX4_needPlace 2 none, Cond.classLink RX4 214 "java/lang/IndexOutOfBoundsException", Cond.initialized "java/lang/IndexOutOfBoundsException", Cond.fieldLink RX4 12 "QueueReader" "net" "LQueueReader$Net;", Cond.fieldLink RX4 48 "QueueReader$Net" "places" "I", Cond.methodLink RX4 114 yX4_refreshPlay, Cond.instanceMethod yX4_refreshPlay, Cond.selects RX4 yX4_refreshPlay yX4_refreshPlay, Cond.code yX4_refreshPlay cX4_refreshPlay 1 none, Cond.fieldLink RX4 40 "QueueReader" "isPlayFresh" "Z", Cond.fieldLink RX4 33 "QueueReader" "play" "LQueueReader$Play;", Cond.methodLink RX4 210 yX2_run, Cond.instanceMethod yX2_run, Cond.selects RX2 yX2_run yX2_run, Cond.initialized RX2, Cond.code yX2_run cX2_run 6 none, Cond.constant RX2 44 (1000000000), Cond.fieldLink RX2 48 "QueueReader$Net" "places" "I", Cond.methodLink RX2 36 yX2_open, Cond.instanceMethod yX2_open]
def wsX4_saved_r2 : List Cond := [Cond.selects RX2 yX2_open yX2_open, Cond.code yX2_open cX2_open 4 none, Cond.fieldLink RX2 30 "QueueReader$Play" "free" "[I", Cond.fieldLink RX2 74 "QueueReader$Net" "helpers" "[I", Cond.fieldLink RX2 33 "QueueReader$Play" "waiting" "[I", Cond.fieldLink RX2 58 "QueueReader$Net" "asks" "I", Cond.fieldLink RX2 21 "QueueReader$Play" "states" "[I", Cond.fieldLink RX2 24 "QueueReader$Play" "rows" "[I", Cond.fieldLink RX2 27 "QueueReader$Play" "dues" "[I", Cond.fieldLink RX2 65 "QueueReader$Net" "starts" "[I", Cond.methodLink RX2 77 yX1_firstRow, Cond.instanceMethod yX1_firstRow, Cond.selects RX1 yX1_firstRow yX1_firstRow, Cond.initialized RX1, Cond.code yX1_firstRow cX1_firstRow 2 (some .int), Cond.methodLink RX2 40 yX2_nextTick, Cond.instanceMethod yX2_nextTick, Cond.selects RX2 yX2_nextTick yX2_nextTick, Cond.code yX2_nextTick cX2_nextTick 4 (some .int), Cond.methodLink RX2 80 Lib.Math.min.name, Cond.static Lib.Math.min.name, Cond.initialized "java/lang/Math", Cond.code Lib.Math.min.name Lib.Math.min.code 2 (some .int), Cond.methodLink RX2 45 yX2_advance]
def wsX4_saved_r3 : List Cond := [Cond.instanceMethod yX2_advance, Cond.selects RX2 yX2_advance yX2_advance, Cond.code yX2_advance cX2_advance 4 none, Cond.methodLink RX2 83 yX2_finish, Cond.instanceMethod yX2_finish, Cond.selects RX2 yX2_finish yX2_finish, Cond.code yX2_finish cX2_finish 6 none, Cond.fieldLink RX2 89 "QueueReader$Net" "stepPlaces" "[I", Cond.fieldLink RX2 92 "QueueReader$Net" "delays" "[I", Cond.methodLink RX2 61 yX1_lastRow, Cond.instanceMethod yX1_lastRow, Cond.selects RX1 yX1_lastRow yX1_lastRow, Cond.code yX1_lastRow cX1_lastRow 2 (some .int), Cond.fieldLink RX1 37 "QueueReader$Net" "lengths" "[I", Cond.methodLink RX1 52 yX1_firstRow, Cond.methodLink RX2 86 yX2_arrive, Cond.instanceMethod yX2_arrive, Cond.selects RX2 yX2_arrive yX2_arrive, Cond.code yX2_arrive cX2_arrive 5 none, Cond.fieldLink RX2 9 "QueueReader$Play" "came" "[I", Cond.methodLink RX2 54 yX2_beginAt, Cond.instanceMethod yX2_beginAt, Cond.selects RX2 yX2_beginAt yX2_beginAt, Cond.code yX2_beginAt cX2_beginAt 7 none]
def wsX4_saved_r4 : List Cond := [Cond.fieldLink RX2 15 "QueueReader$Play" "begun" "[I", Cond.fieldLink RX2 18 "QueueReader$Play" "done" "[I", Cond.fieldLink RX2 99 "QueueReader$Net" "stepWorks" "[I", Cond.methodLink RX2 95 yX2_firstWaiting, Cond.instanceMethod yX2_firstWaiting, Cond.selects RX2 yX2_firstWaiting yX2_firstWaiting, Cond.code yX2_firstWaiting cX2_firstWaiting 10 (some .int), Cond.fieldLink RX2 102 "QueueReader$Net" "rules" "[I", Cond.fieldLink RX2 105 "QueueReader$Net" "kinds" "[I", Cond.static yX4_rank, Cond.code yX4_rank cX4_rank 4 (some .long), Cond.constantLong RX4 230 (1000000000), Cond.methodLink RX4 163 yX4_gainAt, Cond.instanceMethod yX4_gainAt, Cond.selects RX4 yX4_gainAt yX4_gainAt, Cond.code yX4_gainAt cX4_gainAt 2 (some .long), Cond.fieldLink RX4 37 "QueueReader" "trial" "LQueueReader$Play;", Cond.methodLink RX4 159 yX2_sumOfTimes, Cond.instanceMethod yX2_sumOfTimes, Cond.selects RX2 yX2_sumOfTimes yX2_sumOfTimes, Cond.code yX2_sumOfTimes cX2_sumOfTimes 5 (some .long)]
def wsX4_saved : List Cond := .code yX4_saved cX4_saved 2 (some .long) :: ((wsX4_saved_r1 ++ (wsX4_saved_r2 ++ (wsX4_saved_r3 ++ wsX4_saved_r4))) ++ wsX40 ++ wsX10 ++ wsX20 ++ (vx_atS RX4 218 "java/lang/IndexOutOfBoundsException" ["java/lang/RuntimeException", "java/lang/Exception"]).filter goodWord)
def wsX4_narrow_r1 : List Cond := [Cond.fieldLink RX4 12 "QueueReader" "net" "LQueueReader$Net;", Cond.fieldLink RX4 48 "QueueReader$Net" "places" "I", Cond.methodLink RX4 114 yX4_refreshPlay, Cond.instanceMethod yX4_refreshPlay, Cond.selects RX4 yX4_refreshPlay yX4_refreshPlay, Cond.initialized RX4, Cond.code yX4_refreshPlay cX4_refreshPlay 1 none, Cond.fieldLink RX4 40 "QueueReader" "isPlayFresh" "Z", Cond.fieldLink RX4 33 "QueueReader" "play" "LQueueReader$Play;", Cond.methodLink RX4 210 yX2_run, Cond.instanceMethod yX2_run, Cond.selects RX2 yX2_run yX2_run, Cond.initialized RX2, Cond.code yX2_run cX2_run 6 none, Cond.constant RX2 44 (1000000000), Cond.fieldLink RX2 48 "QueueReader$Net" "places" "I", Cond.methodLink RX2 36 yX2_open, Cond.instanceMethod yX2_open, Cond.selects RX2 yX2_open yX2_open, Cond.code yX2_open cX2_open 4 none, Cond.fieldLink RX2 30 "QueueReader$Play" "free" "[I", Cond.fieldLink RX2 74 "QueueReader$Net" "helpers" "[I", Cond.fieldLink RX2 33 "QueueReader$Play" "waiting" "[I", Cond.fieldLink RX2 58 "QueueReader$Net" "asks" "I"]
def wsX4_narrow_r2 : List Cond := [Cond.fieldLink RX2 21 "QueueReader$Play" "states" "[I", Cond.fieldLink RX2 24 "QueueReader$Play" "rows" "[I", Cond.fieldLink RX2 27 "QueueReader$Play" "dues" "[I", Cond.fieldLink RX2 65 "QueueReader$Net" "starts" "[I", Cond.methodLink RX2 77 yX1_firstRow, Cond.instanceMethod yX1_firstRow, Cond.selects RX1 yX1_firstRow yX1_firstRow, Cond.initialized RX1, Cond.code yX1_firstRow cX1_firstRow 2 (some .int), Cond.methodLink RX2 40 yX2_nextTick, Cond.instanceMethod yX2_nextTick, Cond.selects RX2 yX2_nextTick yX2_nextTick, Cond.code yX2_nextTick cX2_nextTick 4 (some .int), Cond.methodLink RX2 80 Lib.Math.min.name, Cond.static Lib.Math.min.name, Cond.initialized "java/lang/Math", Cond.code Lib.Math.min.name Lib.Math.min.code 2 (some .int), Cond.methodLink RX2 45 yX2_advance, Cond.instanceMethod yX2_advance, Cond.selects RX2 yX2_advance yX2_advance, Cond.code yX2_advance cX2_advance 4 none, Cond.methodLink RX2 83 yX2_finish, Cond.instanceMethod yX2_finish, Cond.selects RX2 yX2_finish yX2_finish]
def wsX4_narrow_r3 : List Cond := [Cond.code yX2_finish cX2_finish 6 none, Cond.fieldLink RX2 89 "QueueReader$Net" "stepPlaces" "[I", Cond.fieldLink RX2 92 "QueueReader$Net" "delays" "[I", Cond.methodLink RX2 61 yX1_lastRow, Cond.instanceMethod yX1_lastRow, Cond.selects RX1 yX1_lastRow yX1_lastRow, Cond.code yX1_lastRow cX1_lastRow 2 (some .int), Cond.fieldLink RX1 37 "QueueReader$Net" "lengths" "[I", Cond.methodLink RX1 52 yX1_firstRow, Cond.methodLink RX2 86 yX2_arrive, Cond.instanceMethod yX2_arrive, Cond.selects RX2 yX2_arrive yX2_arrive, Cond.code yX2_arrive cX2_arrive 5 none, Cond.fieldLink RX2 9 "QueueReader$Play" "came" "[I", Cond.methodLink RX2 54 yX2_beginAt, Cond.instanceMethod yX2_beginAt, Cond.selects RX2 yX2_beginAt yX2_beginAt, Cond.code yX2_beginAt cX2_beginAt 7 none, Cond.fieldLink RX2 15 "QueueReader$Play" "begun" "[I", Cond.fieldLink RX2 18 "QueueReader$Play" "done" "[I", Cond.fieldLink RX2 99 "QueueReader$Net" "stepWorks" "[I", Cond.methodLink RX2 95 yX2_firstWaiting, Cond.instanceMethod yX2_firstWaiting, Cond.selects RX2 yX2_firstWaiting yX2_firstWaiting]
def wsX4_narrow_r4 : List Cond := [Cond.code yX2_firstWaiting cX2_firstWaiting 10 (some .int), Cond.fieldLink RX2 102 "QueueReader$Net" "rules" "[I", Cond.fieldLink RX2 105 "QueueReader$Net" "kinds" "[I", Cond.static yX4_rank, Cond.code yX4_rank cX4_rank 4 (some .long), Cond.constantLong RX4 230 (1000000000), Cond.methodLink RX4 163 yX4_gainAt, Cond.instanceMethod yX4_gainAt, Cond.selects RX4 yX4_gainAt yX4_gainAt, Cond.code yX4_gainAt cX4_gainAt 2 (some .long), Cond.fieldLink RX4 37 "QueueReader" "trial" "LQueueReader$Play;", Cond.methodLink RX4 159 yX2_sumOfTimes, Cond.instanceMethod yX2_sumOfTimes, Cond.selects RX2 yX2_sumOfTimes yX2_sumOfTimes, Cond.code yX2_sumOfTimes cX2_sumOfTimes 5 (some .long)]
def wsX4_narrow : List Cond := .code yX4_narrow cX4_narrow 7 (some .int) :: ((wsX4_narrow_r1 ++ (wsX4_narrow_r2 ++ (wsX4_narrow_r3 ++ wsX4_narrow_r4))) ++ wsX40 ++ wsX10 ++ wsX20)
def wsX4_alone : List Cond := .code yX4_alone cX4_alone 4 (some .int) :: ([.fieldLink RX4 12 "QueueReader" "net" "LQueueReader$Net;", .fieldLink RX4 80 "QueueReader$Net" "starts" "[I", .fieldLink RX4 174 "QueueReader$Net" "stepWorks" "[I", .fieldLink RX4 177 "QueueReader$Net" "delays" "[I", .fieldLink RX4 180 "QueueReader$Net" "stepPlaces" "[I", .methodLink RX4 87 yX4_needAsk, .instanceMethod yX4_needAsk, .selects RX4 yX4_needAsk yX4_needAsk, .initialized RX4, .code yX4_needAsk cX4_needAsk 2 none, .classLink RX4 214 "java/lang/IndexOutOfBoundsException", .initialized "java/lang/IndexOutOfBoundsException", .fieldLink RX4 71 "QueueReader$Net" "asks" "I", .methodLink RX4 167 yX1_firstRow, .instanceMethod yX1_firstRow, .selects RX1 yX1_firstRow yX1_firstRow, .initialized RX1, .code yX1_firstRow cX1_firstRow 2 (some .int), .methodLink RX4 171 yX1_lastRow, .instanceMethod yX1_lastRow, .selects RX1 yX1_lastRow yX1_lastRow, .code yX1_lastRow cX1_lastRow 2 (some .int), .fieldLink RX1 37 "QueueReader$Net" "lengths" "[I", .methodLink RX1 52 yX1_firstRow] ++ wsX40 ++ wsX10 ++ (vx_atS RX4 218 "java/lang/IndexOutOfBoundsException" ["java/lang/RuntimeException", "java/lang/Exception"]).filter goodWord)
def wsX4_count_r1 : List Cond := [Cond.fieldLink RX4 12 "QueueReader" "net" "LQueueReader$Net;", Cond.fieldLink RX4 48 "QueueReader$Net" "places" "I", Cond.fieldLink RX4 71 "QueueReader$Net" "asks" "I", Cond.fieldLink RX4 134 "QueueReader$Net" "steps" "I", Cond.fieldLink RX4 19 "QueueReader" "told" "LQueueReader$Tracks;", Cond.fieldLink RX4 33 "QueueReader" "play" "LQueueReader$Play;", Cond.methodLink RX4 183 yX3_size, Cond.instanceMethod yX3_size, Cond.selects RX3 yX3_size yX3_size, Cond.initialized RX3, Cond.code yX3_size cX3_size 4 (some .int), Cond.fieldLink RX3 9 "QueueReader$Tracks" "isSeen" "[Z", Cond.methodLink RX3 22 yX1_rowsEnd, Cond.instanceMethod yX1_rowsEnd, Cond.selects RX1 yX1_rowsEnd yX1_rowsEnd, Cond.initialized RX1, Cond.code yX1_rowsEnd cX1_rowsEnd 1 (some .int), Cond.fieldLink RX1 15 "QueueReader$Net" "asks" "I", Cond.methodLink RX4 114 yX4_refreshPlay, Cond.instanceMethod yX4_refreshPlay, Cond.selects RX4 yX4_refreshPlay yX4_refreshPlay, Cond.initialized RX4, Cond.code yX4_refreshPlay cX4_refreshPlay 1 none, Cond.fieldLink RX4 40 "QueueReader" "isPlayFresh" "Z"]
def wsX4_count_r2 : List Cond := [Cond.methodLink RX4 210 yX2_run, Cond.instanceMethod yX2_run, Cond.selects RX2 yX2_run yX2_run, Cond.initialized RX2, Cond.code yX2_run cX2_run 6 none, Cond.constant RX2 44 (1000000000), Cond.fieldLink RX2 48 "QueueReader$Net" "places" "I", Cond.methodLink RX2 36 yX2_open, Cond.instanceMethod yX2_open, Cond.selects RX2 yX2_open yX2_open, Cond.code yX2_open cX2_open 4 none, Cond.fieldLink RX2 30 "QueueReader$Play" "free" "[I", Cond.fieldLink RX2 74 "QueueReader$Net" "helpers" "[I", Cond.fieldLink RX2 33 "QueueReader$Play" "waiting" "[I", Cond.fieldLink RX2 58 "QueueReader$Net" "asks" "I", Cond.fieldLink RX2 21 "QueueReader$Play" "states" "[I", Cond.fieldLink RX2 24 "QueueReader$Play" "rows" "[I", Cond.fieldLink RX2 27 "QueueReader$Play" "dues" "[I", Cond.fieldLink RX2 65 "QueueReader$Net" "starts" "[I", Cond.methodLink RX2 77 yX1_firstRow, Cond.instanceMethod yX1_firstRow, Cond.selects RX1 yX1_firstRow yX1_firstRow, Cond.code yX1_firstRow cX1_firstRow 2 (some .int), Cond.methodLink RX2 40 yX2_nextTick]
def wsX4_count_r3 : List Cond := [Cond.instanceMethod yX2_nextTick, Cond.selects RX2 yX2_nextTick yX2_nextTick, Cond.code yX2_nextTick cX2_nextTick 4 (some .int), Cond.methodLink RX2 80 Lib.Math.min.name, Cond.static Lib.Math.min.name, Cond.initialized "java/lang/Math", Cond.code Lib.Math.min.name Lib.Math.min.code 2 (some .int), Cond.methodLink RX2 45 yX2_advance, Cond.instanceMethod yX2_advance, Cond.selects RX2 yX2_advance yX2_advance, Cond.code yX2_advance cX2_advance 4 none, Cond.methodLink RX2 83 yX2_finish, Cond.instanceMethod yX2_finish, Cond.selects RX2 yX2_finish yX2_finish, Cond.code yX2_finish cX2_finish 6 none, Cond.fieldLink RX2 89 "QueueReader$Net" "stepPlaces" "[I", Cond.fieldLink RX2 92 "QueueReader$Net" "delays" "[I", Cond.methodLink RX2 61 yX1_lastRow, Cond.instanceMethod yX1_lastRow, Cond.selects RX1 yX1_lastRow yX1_lastRow, Cond.code yX1_lastRow cX1_lastRow 2 (some .int), Cond.fieldLink RX1 37 "QueueReader$Net" "lengths" "[I", Cond.methodLink RX1 52 yX1_firstRow, Cond.methodLink RX2 86 yX2_arrive]
def wsX4_count_r4 : List Cond := [Cond.instanceMethod yX2_arrive, Cond.selects RX2 yX2_arrive yX2_arrive, Cond.code yX2_arrive cX2_arrive 5 none, Cond.fieldLink RX2 9 "QueueReader$Play" "came" "[I", Cond.methodLink RX2 54 yX2_beginAt, Cond.instanceMethod yX2_beginAt, Cond.selects RX2 yX2_beginAt yX2_beginAt, Cond.code yX2_beginAt cX2_beginAt 7 none, Cond.fieldLink RX2 15 "QueueReader$Play" "begun" "[I", Cond.fieldLink RX2 18 "QueueReader$Play" "done" "[I", Cond.fieldLink RX2 99 "QueueReader$Net" "stepWorks" "[I", Cond.methodLink RX2 95 yX2_firstWaiting, Cond.instanceMethod yX2_firstWaiting, Cond.selects RX2 yX2_firstWaiting yX2_firstWaiting, Cond.code yX2_firstWaiting cX2_firstWaiting 10 (some .int), Cond.fieldLink RX2 102 "QueueReader$Net" "rules" "[I", Cond.fieldLink RX2 105 "QueueReader$Net" "kinds" "[I", Cond.static yX4_rank, Cond.code yX4_rank cX4_rank 4 (some .long), Cond.constantLong RX4 230 (1000000000), Cond.methodLink RX4 187 yX2_end, Cond.instanceMethod yX2_end, Cond.selects RX2 yX2_end yX2_end, Cond.code yX2_end cX2_end 4 (some .int)]
def wsX4_count_r5 : List Cond := [Cond.methodLink RX2 68 Lib.Math.max.name, Cond.static Lib.Math.max.name, Cond.code Lib.Math.max.name Lib.Math.max.code 2 (some .int)]
def wsX4_count : List Cond := .code yX4_count cX4_count 2 (some .int) :: ((wsX4_count_r1 ++ (wsX4_count_r2 ++ (wsX4_count_r3 ++ (wsX4_count_r4 ++ wsX4_count_r5)))) ++ wsX40 ++ wsX10 ++ wsX30 ++ wsX20)
def wsX5_init : List Cond := .code yX5_init cX5_init 1 none :: ([.methodLink RX5 3 objectInit, .instanceMethod objectInit, .code objectInit ⟨#[0xb1]⟩ 1 none, .arrayClass .int, .fieldLink RX5 9 "QueueReaderModel" "helpers" "[I", .fieldLink RX5 13 "QueueReaderModel" "rule" "[I", .fieldLink RX5 16 "QueueReaderModel" "delay" "[I", .fieldLink RX5 19 "QueueReaderModel" "kind" "[I", .fieldLink RX5 22 "QueueReaderModel" "start" "[I", .fieldLink RX5 25 "QueueReaderModel" "steps" "[I", .fieldLink RX5 28 "QueueReaderModel" "at" "[I", .fieldLink RX5 31 "QueueReaderModel" "work" "[I", .arrayClass .boolean, .fieldLink RX5 34 "QueueReaderModel" "isSeen" "[Z", .fieldLink RX5 38 "QueueReaderModel" "seenBegun" "[I", .fieldLink RX5 41 "QueueReaderModel" "seenDone" "[I", .fieldLink RX5 44 "QueueReaderModel" "came" "[I", .fieldLink RX5 47 "QueueReaderModel" "begun" "[I", .fieldLink RX5 50 "QueueReaderModel" "done" "[I", .fieldLink RX5 53 "QueueReaderModel" "waits" "[Z", .fieldLink RX5 56 "QueueReaderModel" "pWork" "[I"] ++ wsX50)
def wsX5_thrown : List Cond := .code yX5_thrown cX5_thrown 1 (some .int) :: ([.fieldLink RX5 59 "QueueReaderModel" "thrown" "I"] ++ wsX50)
def wsX5_throwsIf : List Cond := .code yX5_throwsIf cX5_throwsIf 3 (some .boolean) :: ([.fieldLink RX5 59 "QueueReaderModel" "thrown" "I"] ++ wsX50)
def wsX5_in : List Cond := .code yX5_in cX5_in 3 (some .boolean) :: ([])
def wsX5_noPlace : List Cond := .code yX5_noPlace cX5_noPlace 2 (some .boolean) :: ([.fieldLink RX5 63 "QueueReaderModel" "places" "I", .methodLink RX5 66 yX5_in, .static yX5_in, .initialized RX5, .code yX5_in cX5_in 3 (some .boolean)] ++ wsX50)
def wsX5_noAsk : List Cond := .code yX5_noAsk cX5_noAsk 2 (some .boolean) :: ([.fieldLink RX5 70 "QueueReaderModel" "asks" "I", .methodLink RX5 66 yX5_in, .static yX5_in, .initialized RX5, .code yX5_in cX5_in 3 (some .boolean)] ++ wsX50)
def wsX5_noStep : List Cond := .code yX5_noStep cX5_noStep 3 (some .boolean) :: ([.fieldLink RX5 25 "QueueReaderModel" "steps" "[I", .methodLink RX5 73 yX5_noAsk, .instanceMethod yX5_noAsk, .selects RX5 yX5_noAsk yX5_noAsk, .initialized RX5, .code yX5_noAsk cX5_noAsk 2 (some .boolean), .fieldLink RX5 70 "QueueReaderModel" "asks" "I", .methodLink RX5 66 yX5_in, .static yX5_in, .code yX5_in cX5_in 3 (some .boolean)] ++ wsX50)
def wsX5_isPlace : List Cond := .code yX5_isPlace cX5_isPlace 3 (some .boolean) :: ([.methodLink RX5 66 yX5_in, .static yX5_in, .initialized RX5, .code yX5_in cX5_in 3 (some .boolean)])
def wsX5_place : List Cond := .code yX5_place cX5_place 4 (some .int) :: ([.fieldLink RX5 59 "QueueReaderModel" "thrown" "I", .fieldLink RX5 63 "QueueReaderModel" "places" "I", .fieldLink RX5 9 "QueueReaderModel" "helpers" "[I", .fieldLink RX5 13 "QueueReaderModel" "rule" "[I", .fieldLink RX5 16 "QueueReaderModel" "delay" "[I", .methodLink RX5 77 yX5_isPlace, .static yX5_isPlace, .initialized RX5, .code yX5_isPlace cX5_isPlace 3 (some .boolean), .methodLink RX5 66 yX5_in, .static yX5_in, .code yX5_in cX5_in 3 (some .boolean), .methodLink RX5 80 yX5_throwsIf, .instanceMethod yX5_throwsIf, .selects RX5 yX5_throwsIf yX5_throwsIf, .code yX5_throwsIf cX5_throwsIf 3 (some .boolean)] ++ wsX50)
def wsX5_change : List Cond := .code yX5_change cX5_change 5 none :: ([.fieldLink RX5 59 "QueueReaderModel" "thrown" "I", .fieldLink RX5 9 "QueueReaderModel" "helpers" "[I", .fieldLink RX5 13 "QueueReaderModel" "rule" "[I", .fieldLink RX5 16 "QueueReaderModel" "delay" "[I", .methodLink RX5 84 yX5_noPlace, .instanceMethod yX5_noPlace, .selects RX5 yX5_noPlace yX5_noPlace, .initialized RX5, .code yX5_noPlace cX5_noPlace 2 (some .boolean), .fieldLink RX5 63 "QueueReaderModel" "places" "I", .methodLink RX5 66 yX5_in, .static yX5_in, .code yX5_in cX5_in 3 (some .boolean), .methodLink RX5 80 yX5_throwsIf, .instanceMethod yX5_throwsIf, .selects RX5 yX5_throwsIf yX5_throwsIf, .code yX5_throwsIf cX5_throwsIf 3 (some .boolean), .methodLink RX5 77 yX5_isPlace, .static yX5_isPlace, .code yX5_isPlace cX5_isPlace 3 (some .boolean)] ++ wsX50)
def wsX5_ask : List Cond := .code yX5_ask cX5_ask 5 (some .int) :: ([.fieldLink RX5 59 "QueueReaderModel" "thrown" "I", .constant RX5 87 (100000), .fieldLink RX5 70 "QueueReaderModel" "asks" "I", .fieldLink RX5 19 "QueueReaderModel" "kind" "[I", .fieldLink RX5 22 "QueueReaderModel" "start" "[I", .fieldLink RX5 28 "QueueReaderModel" "at" "[I", .fieldLink RX5 31 "QueueReaderModel" "work" "[I", .fieldLink RX5 25 "QueueReaderModel" "steps" "[I", .methodLink RX5 84 yX5_noPlace, .instanceMethod yX5_noPlace, .selects RX5 yX5_noPlace yX5_noPlace, .initialized RX5, .code yX5_noPlace cX5_noPlace 2 (some .boolean), .fieldLink RX5 63 "QueueReaderModel" "places" "I", .methodLink RX5 66 yX5_in, .static yX5_in, .code yX5_in cX5_in 3 (some .boolean), .methodLink RX5 80 yX5_throwsIf, .instanceMethod yX5_throwsIf, .selects RX5 yX5_throwsIf yX5_throwsIf, .code yX5_throwsIf cX5_throwsIf 3 (some .boolean)] ++ wsX50)
def wsX5_step : List Cond := .code yX5_step cX5_step 4 (some .int) :: ([.fieldLink RX5 59 "QueueReaderModel" "thrown" "I", .fieldLink RX5 25 "QueueReaderModel" "steps" "[I", .fieldLink RX5 28 "QueueReaderModel" "at" "[I", .fieldLink RX5 31 "QueueReaderModel" "work" "[I", .methodLink RX5 73 yX5_noAsk, .instanceMethod yX5_noAsk, .selects RX5 yX5_noAsk yX5_noAsk, .initialized RX5, .code yX5_noAsk cX5_noAsk 2 (some .boolean), .fieldLink RX5 70 "QueueReaderModel" "asks" "I", .methodLink RX5 66 yX5_in, .static yX5_in, .code yX5_in cX5_in 3 (some .boolean), .methodLink RX5 84 yX5_noPlace, .instanceMethod yX5_noPlace, .selects RX5 yX5_noPlace yX5_noPlace, .code yX5_noPlace cX5_noPlace 2 (some .boolean), .fieldLink RX5 63 "QueueReaderModel" "places" "I", .methodLink RX5 80 yX5_throwsIf, .instanceMethod yX5_throwsIf, .selects RX5 yX5_throwsIf yX5_throwsIf, .code yX5_throwsIf cX5_throwsIf 3 (some .boolean)] ++ wsX50)
def wsX5_seen : List Cond := .code yX5_seen cX5_seen 5 none :: ([.fieldLink RX5 59 "QueueReaderModel" "thrown" "I", .constant RX5 92 (10000000), .fieldLink RX5 34 "QueueReaderModel" "isSeen" "[Z", .fieldLink RX5 38 "QueueReaderModel" "seenBegun" "[I", .fieldLink RX5 41 "QueueReaderModel" "seenDone" "[I", .methodLink RX5 88 yX5_noStep, .instanceMethod yX5_noStep, .selects RX5 yX5_noStep yX5_noStep, .initialized RX5, .code yX5_noStep cX5_noStep 3 (some .boolean), .fieldLink RX5 25 "QueueReaderModel" "steps" "[I", .methodLink RX5 73 yX5_noAsk, .instanceMethod yX5_noAsk, .selects RX5 yX5_noAsk yX5_noAsk, .code yX5_noAsk cX5_noAsk 2 (some .boolean), .fieldLink RX5 70 "QueueReaderModel" "asks" "I", .methodLink RX5 66 yX5_in, .static yX5_in, .code yX5_in cX5_in 3 (some .boolean), .methodLink RX5 80 yX5_throwsIf, .instanceMethod yX5_throwsIf, .selects RX5 yX5_throwsIf yX5_throwsIf, .code yX5_throwsIf cX5_throwsIf 3 (some .boolean)] ++ wsX50)
def wsX5_unsee : List Cond := .code yX5_unsee cX5_unsee 4 (some .boolean) :: ([.fieldLink RX5 59 "QueueReaderModel" "thrown" "I", .fieldLink RX5 34 "QueueReaderModel" "isSeen" "[Z", .methodLink RX5 88 yX5_noStep, .instanceMethod yX5_noStep, .selects RX5 yX5_noStep yX5_noStep, .initialized RX5, .code yX5_noStep cX5_noStep 3 (some .boolean), .fieldLink RX5 25 "QueueReaderModel" "steps" "[I", .methodLink RX5 73 yX5_noAsk, .instanceMethod yX5_noAsk, .selects RX5 yX5_noAsk yX5_noAsk, .code yX5_noAsk cX5_noAsk 2 (some .boolean), .fieldLink RX5 70 "QueueReaderModel" "asks" "I", .methodLink RX5 66 yX5_in, .static yX5_in, .code yX5_in cX5_in 3 (some .boolean), .methodLink RX5 80 yX5_throwsIf, .instanceMethod yX5_throwsIf, .selects RX5 yX5_throwsIf yX5_throwsIf, .code yX5_throwsIf cX5_throwsIf 3 (some .boolean)] ++ wsX50)
def wsX5_isAhead : List Cond := .code yX5_isAhead cX5_isAhead 4 (some .boolean) :: ([.fieldLink RX5 44 "QueueReaderModel" "came" "[I", .fieldLink RX5 56 "QueueReaderModel" "pWork" "[I", .fieldLink RX5 19 "QueueReaderModel" "kind" "[I"] ++ wsX50)
def wsX5_next : List Cond := .code yX5_next cX5_next 5 (some .int) :: ([.fieldLink RX5 70 "QueueReaderModel" "asks" "I", .fieldLink RX5 53 "QueueReaderModel" "waits" "[Z", .fieldLink RX5 28 "QueueReaderModel" "at" "[I", .methodLink RX5 93 yX5_isAhead, .instanceMethod yX5_isAhead, .selects RX5 yX5_isAhead yX5_isAhead, .initialized RX5, .code yX5_isAhead cX5_isAhead 4 (some .boolean), .fieldLink RX5 44 "QueueReaderModel" "came" "[I", .fieldLink RX5 56 "QueueReaderModel" "pWork" "[I", .fieldLink RX5 19 "QueueReaderModel" "kind" "[I"] ++ wsX50)
def wsX5_busy : List Cond := .code yX5_busy cX5_busy 5 (some .int) :: ([.fieldLink RX5 70 "QueueReaderModel" "asks" "I", .fieldLink RX5 28 "QueueReaderModel" "at" "[I", .fieldLink RX5 47 "QueueReaderModel" "begun" "[I", .fieldLink RX5 50 "QueueReaderModel" "done" "[I", .constant RX5 96 (2000000000)] ++ wsX50)
def wsX5_begins : List Cond := .code yX5_begins cX5_begins 7 none :: ([.fieldLink RX5 53 "QueueReaderModel" "waits" "[Z", .fieldLink RX5 47 "QueueReaderModel" "begun" "[I", .fieldLink RX5 50 "QueueReaderModel" "done" "[I", .fieldLink RX5 56 "QueueReaderModel" "pWork" "[I", .methodLink RX5 97 yX5_busy, .instanceMethod yX5_busy, .selects RX5 yX5_busy yX5_busy, .initialized RX5, .code yX5_busy cX5_busy 5 (some .int), .fieldLink RX5 70 "QueueReaderModel" "asks" "I", .fieldLink RX5 28 "QueueReaderModel" "at" "[I", .constant RX5 96 (2000000000), .methodLink RX5 101 yX5_next, .instanceMethod yX5_next, .selects RX5 yX5_next yX5_next, .code yX5_next cX5_next 5 (some .int), .methodLink RX5 93 yX5_isAhead, .instanceMethod yX5_isAhead, .selects RX5 yX5_isAhead yX5_isAhead, .code yX5_isAhead cX5_isAhead 4 (some .boolean), .fieldLink RX5 44 "QueueReaderModel" "came" "[I", .fieldLink RX5 19 "QueueReaderModel" "kind" "[I"] ++ wsX50)
def wsX5_forgets : List Cond := .code yX5_forgets cX5_forgets 2 none :: ([.fieldLink RX5 44 "QueueReaderModel" "came" "[I", .constant RX5 96 (2000000000), .fieldLink RX5 47 "QueueReaderModel" "begun" "[I", .fieldLink RX5 50 "QueueReaderModel" "done" "[I", .fieldLink RX5 53 "QueueReaderModel" "waits" "[Z"] ++ wsX50)
def wsX5_plays_r1 : List Cond := [Cond.fieldLink RX5 56 "QueueReaderModel" "pWork" "[I", Cond.fieldLink RX5 31 "QueueReaderModel" "work" "[I", Cond.fieldLink RX5 70 "QueueReaderModel" "asks" "I", Cond.fieldLink RX5 44 "QueueReaderModel" "came" "[I", Cond.fieldLink RX5 22 "QueueReaderModel" "start" "[I", Cond.constant RX5 96 (2000000000), Cond.methodLink RX5 107 Lib.Math.min.name, Cond.static Lib.Math.min.name, Cond.initialized "java/lang/Math", Cond.code Lib.Math.min.name Lib.Math.min.code 2 (some .int), Cond.fieldLink RX5 50 "QueueReaderModel" "done" "[I", Cond.methodLink RX5 112 Lib.Math.max.name, Cond.static Lib.Math.max.name, Cond.code Lib.Math.max.name Lib.Math.max.code 2 (some .int), Cond.fieldLink RX5 25 "QueueReaderModel" "steps" "[I", Cond.fieldLink RX5 16 "QueueReaderModel" "delay" "[I", Cond.fieldLink RX5 28 "QueueReaderModel" "at" "[I", Cond.fieldLink RX5 47 "QueueReaderModel" "begun" "[I", Cond.fieldLink RX5 53 "QueueReaderModel" "waits" "[Z", Cond.fieldLink RX5 63 "QueueReaderModel" "places" "I", Cond.fieldLink RX5 9 "QueueReaderModel" "helpers" "[I", Cond.fieldLink RX5 13 "QueueReaderModel" "rule" "[I", Cond.methodLink RX5 104 yX5_forgets, Cond.instanceMethod yX5_forgets]
def wsX5_plays_r2 : List Cond := [Cond.selects RX5 yX5_forgets yX5_forgets, Cond.initialized RX5, Cond.code yX5_forgets cX5_forgets 2 none, Cond.methodLink RX5 115 yX5_begins, Cond.instanceMethod yX5_begins, Cond.selects RX5 yX5_begins yX5_begins, Cond.code yX5_begins cX5_begins 7 none, Cond.methodLink RX5 97 yX5_busy, Cond.instanceMethod yX5_busy, Cond.selects RX5 yX5_busy yX5_busy, Cond.code yX5_busy cX5_busy 5 (some .int), Cond.methodLink RX5 101 yX5_next, Cond.instanceMethod yX5_next, Cond.selects RX5 yX5_next yX5_next, Cond.code yX5_next cX5_next 5 (some .int), Cond.methodLink RX5 93 yX5_isAhead, Cond.instanceMethod yX5_isAhead, Cond.selects RX5 yX5_isAhead yX5_isAhead, Cond.code yX5_isAhead cX5_isAhead 4 (some .boolean), Cond.fieldLink RX5 19 "QueueReaderModel" "kind" "[I"]
def wsX5_plays : List Cond := .code yX5_plays cX5_plays 5 (some .int) :: ((wsX5_plays_r1 ++ wsX5_plays_r2) ++ wsX50)
def wsX5_played_r1 : List Cond := [Cond.fieldLink RX5 59 "QueueReaderModel" "thrown" "I", Cond.fieldLink RX5 44 "QueueReaderModel" "came" "[I", Cond.fieldLink RX5 47 "QueueReaderModel" "begun" "[I", Cond.fieldLink RX5 50 "QueueReaderModel" "done" "[I", Cond.methodLink RX5 88 yX5_noStep, Cond.instanceMethod yX5_noStep, Cond.selects RX5 yX5_noStep yX5_noStep, Cond.initialized RX5, Cond.code yX5_noStep cX5_noStep 3 (some .boolean), Cond.fieldLink RX5 25 "QueueReaderModel" "steps" "[I", Cond.methodLink RX5 73 yX5_noAsk, Cond.instanceMethod yX5_noAsk, Cond.selects RX5 yX5_noAsk yX5_noAsk, Cond.code yX5_noAsk cX5_noAsk 2 (some .boolean), Cond.fieldLink RX5 70 "QueueReaderModel" "asks" "I", Cond.methodLink RX5 66 yX5_in, Cond.static yX5_in, Cond.code yX5_in cX5_in 3 (some .boolean), Cond.methodLink RX5 80 yX5_throwsIf, Cond.instanceMethod yX5_throwsIf, Cond.selects RX5 yX5_throwsIf yX5_throwsIf, Cond.code yX5_throwsIf cX5_throwsIf 3 (some .boolean), Cond.methodLink RX5 119 yX5_plays, Cond.instanceMethod yX5_plays]
def wsX5_played_r2 : List Cond := [Cond.selects RX5 yX5_plays yX5_plays, Cond.code yX5_plays cX5_plays 5 (some .int), Cond.fieldLink RX5 56 "QueueReaderModel" "pWork" "[I", Cond.fieldLink RX5 31 "QueueReaderModel" "work" "[I", Cond.fieldLink RX5 22 "QueueReaderModel" "start" "[I", Cond.constant RX5 96 (2000000000), Cond.methodLink RX5 107 Lib.Math.min.name, Cond.static Lib.Math.min.name, Cond.initialized "java/lang/Math", Cond.code Lib.Math.min.name Lib.Math.min.code 2 (some .int), Cond.methodLink RX5 112 Lib.Math.max.name, Cond.static Lib.Math.max.name, Cond.code Lib.Math.max.name Lib.Math.max.code 2 (some .int), Cond.fieldLink RX5 16 "QueueReaderModel" "delay" "[I", Cond.fieldLink RX5 28 "QueueReaderModel" "at" "[I", Cond.fieldLink RX5 53 "QueueReaderModel" "waits" "[Z", Cond.fieldLink RX5 63 "QueueReaderModel" "places" "I", Cond.fieldLink RX5 9 "QueueReaderModel" "helpers" "[I", Cond.fieldLink RX5 13 "QueueReaderModel" "rule" "[I", Cond.methodLink RX5 104 yX5_forgets, Cond.instanceMethod yX5_forgets, Cond.selects RX5 yX5_forgets yX5_forgets, Cond.code yX5_forgets cX5_forgets 2 none, Cond.methodLink RX5 115 yX5_begins]
def wsX5_played_r3 : List Cond := [Cond.instanceMethod yX5_begins, Cond.selects RX5 yX5_begins yX5_begins, Cond.code yX5_begins cX5_begins 7 none, Cond.methodLink RX5 97 yX5_busy, Cond.instanceMethod yX5_busy, Cond.selects RX5 yX5_busy yX5_busy, Cond.code yX5_busy cX5_busy 5 (some .int), Cond.methodLink RX5 101 yX5_next, Cond.instanceMethod yX5_next, Cond.selects RX5 yX5_next yX5_next, Cond.code yX5_next cX5_next 5 (some .int), Cond.methodLink RX5 93 yX5_isAhead, Cond.instanceMethod yX5_isAhead, Cond.selects RX5 yX5_isAhead yX5_isAhead, Cond.code yX5_isAhead cX5_isAhead 4 (some .boolean), Cond.fieldLink RX5 19 "QueueReaderModel" "kind" "[I"]
def wsX5_played : List Cond := .code yX5_played cX5_played 6 (some .int) :: ((wsX5_played_r1 ++ (wsX5_played_r2 ++ wsX5_played_r3)) ++ wsX50)
def wsX5_stepsOfAll : List Cond := .code yX5_stepsOfAll cX5_stepsOfAll 3 (some .int) :: ([.fieldLink RX5 70 "QueueReaderModel" "asks" "I", .fieldLink RX5 25 "QueueReaderModel" "steps" "[I"] ++ wsX50)
def wsX5_isStep : List Cond := .code yX5_isStep cX5_isStep 2 (some .boolean) :: ([.fieldLink RX5 70 "QueueReaderModel" "asks" "I", .fieldLink RX5 25 "QueueReaderModel" "steps" "[I"] ++ wsX50)
def wsX5_trace_r1 : List Cond := [Cond.fieldLink RX5 59 "QueueReaderModel" "thrown" "I", Cond.fieldLink RX5 34 "QueueReaderModel" "isSeen" "[Z", Cond.fieldLink RX5 38 "QueueReaderModel" "seenBegun" "[I", Cond.fieldLink RX5 47 "QueueReaderModel" "begun" "[I", Cond.fieldLink RX5 41 "QueueReaderModel" "seenDone" "[I", Cond.fieldLink RX5 50 "QueueReaderModel" "done" "[I", Cond.methodLink RX5 119 yX5_plays, Cond.instanceMethod yX5_plays, Cond.selects RX5 yX5_plays yX5_plays, Cond.initialized RX5, Cond.code yX5_plays cX5_plays 5 (some .int), Cond.fieldLink RX5 56 "QueueReaderModel" "pWork" "[I", Cond.fieldLink RX5 31 "QueueReaderModel" "work" "[I", Cond.fieldLink RX5 70 "QueueReaderModel" "asks" "I", Cond.fieldLink RX5 44 "QueueReaderModel" "came" "[I", Cond.fieldLink RX5 22 "QueueReaderModel" "start" "[I", Cond.constant RX5 96 (2000000000), Cond.methodLink RX5 107 Lib.Math.min.name, Cond.static Lib.Math.min.name, Cond.initialized "java/lang/Math", Cond.code Lib.Math.min.name Lib.Math.min.code 2 (some .int), Cond.methodLink RX5 112 Lib.Math.max.name, Cond.static Lib.Math.max.name, Cond.code Lib.Math.max.name Lib.Math.max.code 2 (some .int)]
def wsX5_trace_r2 : List Cond := [Cond.fieldLink RX5 25 "QueueReaderModel" "steps" "[I", Cond.fieldLink RX5 16 "QueueReaderModel" "delay" "[I", Cond.fieldLink RX5 28 "QueueReaderModel" "at" "[I", Cond.fieldLink RX5 53 "QueueReaderModel" "waits" "[Z", Cond.fieldLink RX5 63 "QueueReaderModel" "places" "I", Cond.fieldLink RX5 9 "QueueReaderModel" "helpers" "[I", Cond.fieldLink RX5 13 "QueueReaderModel" "rule" "[I", Cond.methodLink RX5 104 yX5_forgets, Cond.instanceMethod yX5_forgets, Cond.selects RX5 yX5_forgets yX5_forgets, Cond.code yX5_forgets cX5_forgets 2 none, Cond.methodLink RX5 115 yX5_begins, Cond.instanceMethod yX5_begins, Cond.selects RX5 yX5_begins yX5_begins, Cond.code yX5_begins cX5_begins 7 none, Cond.methodLink RX5 97 yX5_busy, Cond.instanceMethod yX5_busy, Cond.selects RX5 yX5_busy yX5_busy, Cond.code yX5_busy cX5_busy 5 (some .int), Cond.methodLink RX5 101 yX5_next, Cond.instanceMethod yX5_next, Cond.selects RX5 yX5_next yX5_next, Cond.code yX5_next cX5_next 5 (some .int), Cond.methodLink RX5 93 yX5_isAhead]
def wsX5_trace_r3 : List Cond := [Cond.instanceMethod yX5_isAhead, Cond.selects RX5 yX5_isAhead yX5_isAhead, Cond.code yX5_isAhead cX5_isAhead 4 (some .boolean), Cond.fieldLink RX5 19 "QueueReaderModel" "kind" "[I", Cond.methodLink RX5 123 yX5_isStep, Cond.instanceMethod yX5_isStep, Cond.selects RX5 yX5_isStep yX5_isStep, Cond.code yX5_isStep cX5_isStep 2 (some .boolean), Cond.methodLink RX5 126 yX5_stepsOfAll, Cond.instanceMethod yX5_stepsOfAll, Cond.selects RX5 yX5_stepsOfAll yX5_stepsOfAll, Cond.code yX5_stepsOfAll cX5_stepsOfAll 3 (some .int)]
def wsX5_trace : List Cond := .code yX5_trace cX5_trace 3 (some .int) :: ((wsX5_trace_r1 ++ (wsX5_trace_r2 ++ wsX5_trace_r3)) ++ wsX50)
def wsX5_unlike_r1 : List Cond := [Cond.fieldLink RX5 59 "QueueReaderModel" "thrown" "I", Cond.fieldLink RX5 34 "QueueReaderModel" "isSeen" "[Z", Cond.fieldLink RX5 38 "QueueReaderModel" "seenBegun" "[I", Cond.fieldLink RX5 47 "QueueReaderModel" "begun" "[I", Cond.fieldLink RX5 41 "QueueReaderModel" "seenDone" "[I", Cond.fieldLink RX5 50 "QueueReaderModel" "done" "[I", Cond.methodLink RX5 119 yX5_plays, Cond.instanceMethod yX5_plays, Cond.selects RX5 yX5_plays yX5_plays, Cond.initialized RX5, Cond.code yX5_plays cX5_plays 5 (some .int), Cond.fieldLink RX5 56 "QueueReaderModel" "pWork" "[I", Cond.fieldLink RX5 31 "QueueReaderModel" "work" "[I", Cond.fieldLink RX5 70 "QueueReaderModel" "asks" "I", Cond.fieldLink RX5 44 "QueueReaderModel" "came" "[I", Cond.fieldLink RX5 22 "QueueReaderModel" "start" "[I", Cond.constant RX5 96 (2000000000), Cond.methodLink RX5 107 Lib.Math.min.name, Cond.static Lib.Math.min.name, Cond.initialized "java/lang/Math", Cond.code Lib.Math.min.name Lib.Math.min.code 2 (some .int), Cond.methodLink RX5 112 Lib.Math.max.name, Cond.static Lib.Math.max.name, Cond.code Lib.Math.max.name Lib.Math.max.code 2 (some .int)]
def wsX5_unlike_r2 : List Cond := [Cond.fieldLink RX5 25 "QueueReaderModel" "steps" "[I", Cond.fieldLink RX5 16 "QueueReaderModel" "delay" "[I", Cond.fieldLink RX5 28 "QueueReaderModel" "at" "[I", Cond.fieldLink RX5 53 "QueueReaderModel" "waits" "[Z", Cond.fieldLink RX5 63 "QueueReaderModel" "places" "I", Cond.fieldLink RX5 9 "QueueReaderModel" "helpers" "[I", Cond.fieldLink RX5 13 "QueueReaderModel" "rule" "[I", Cond.methodLink RX5 104 yX5_forgets, Cond.instanceMethod yX5_forgets, Cond.selects RX5 yX5_forgets yX5_forgets, Cond.code yX5_forgets cX5_forgets 2 none, Cond.methodLink RX5 115 yX5_begins, Cond.instanceMethod yX5_begins, Cond.selects RX5 yX5_begins yX5_begins, Cond.code yX5_begins cX5_begins 7 none, Cond.methodLink RX5 97 yX5_busy, Cond.instanceMethod yX5_busy, Cond.selects RX5 yX5_busy yX5_busy, Cond.code yX5_busy cX5_busy 5 (some .int), Cond.methodLink RX5 101 yX5_next, Cond.instanceMethod yX5_next, Cond.selects RX5 yX5_next yX5_next, Cond.code yX5_next cX5_next 5 (some .int), Cond.methodLink RX5 93 yX5_isAhead]
def wsX5_unlike_r3 : List Cond := [Cond.instanceMethod yX5_isAhead, Cond.selects RX5 yX5_isAhead yX5_isAhead, Cond.code yX5_isAhead cX5_isAhead 4 (some .boolean), Cond.fieldLink RX5 19 "QueueReaderModel" "kind" "[I", Cond.methodLink RX5 123 yX5_isStep, Cond.instanceMethod yX5_isStep, Cond.selects RX5 yX5_isStep yX5_isStep, Cond.code yX5_isStep cX5_isStep 2 (some .boolean)]
def wsX5_unlike : List Cond := .code yX5_unlike cX5_unlike 4 (some .int) :: ((wsX5_unlike_r1 ++ (wsX5_unlike_r2 ++ wsX5_unlike_r3)) ++ wsX50)
def wsX5_seenCame : List Cond := .code yX5_seenCame cX5_seenCame 2 (some .int) :: ([.fieldLink RX5 22 "QueueReaderModel" "start" "[I", .fieldLink RX5 34 "QueueReaderModel" "isSeen" "[Z", .fieldLink RX5 41 "QueueReaderModel" "seenDone" "[I", .fieldLink RX5 16 "QueueReaderModel" "delay" "[I", .fieldLink RX5 28 "QueueReaderModel" "at" "[I"] ++ wsX50)
def wsX5_isWhole : List Cond := .code yX5_isWhole cX5_isWhole 5 (some .boolean) :: ([.fieldLink RX5 28 "QueueReaderModel" "at" "[I", .fieldLink RX5 34 "QueueReaderModel" "isSeen" "[Z", .methodLink RX5 123 yX5_isStep, .instanceMethod yX5_isStep, .selects RX5 yX5_isStep yX5_isStep, .initialized RX5, .code yX5_isStep cX5_isStep 2 (some .boolean), .fieldLink RX5 70 "QueueReaderModel" "asks" "I", .fieldLink RX5 25 "QueueReaderModel" "steps" "[I", .methodLink RX5 130 yX5_seenCame, .instanceMethod yX5_seenCame, .selects RX5 yX5_seenCame yX5_seenCame, .code yX5_seenCame cX5_seenCame 2 (some .int), .fieldLink RX5 22 "QueueReaderModel" "start" "[I", .fieldLink RX5 41 "QueueReaderModel" "seenDone" "[I", .fieldLink RX5 16 "QueueReaderModel" "delay" "[I"] ++ wsX50)
def wsX5_agrees_r1 : List Cond := [Cond.fieldLink RX5 28 "QueueReaderModel" "at" "[I", Cond.fieldLink RX5 44 "QueueReaderModel" "came" "[I", Cond.fieldLink RX5 56 "QueueReaderModel" "pWork" "[I", Cond.fieldLink RX5 41 "QueueReaderModel" "seenDone" "[I", Cond.fieldLink RX5 38 "QueueReaderModel" "seenBegun" "[I", Cond.constant RX5 96 (2000000000), Cond.fieldLink RX5 70 "QueueReaderModel" "asks" "I", Cond.methodLink RX5 107 Lib.Math.min.name, Cond.static Lib.Math.min.name, Cond.initialized "java/lang/Math", Cond.code Lib.Math.min.name Lib.Math.min.code 2 (some .int), Cond.fieldLink RX5 50 "QueueReaderModel" "done" "[I", Cond.fieldLink RX5 53 "QueueReaderModel" "waits" "[Z", Cond.fieldLink RX5 47 "QueueReaderModel" "begun" "[I", Cond.methodLink RX5 104 yX5_forgets, Cond.instanceMethod yX5_forgets, Cond.selects RX5 yX5_forgets yX5_forgets, Cond.initialized RX5, Cond.code yX5_forgets cX5_forgets 2 none, Cond.methodLink RX5 123 yX5_isStep, Cond.instanceMethod yX5_isStep, Cond.selects RX5 yX5_isStep yX5_isStep, Cond.code yX5_isStep cX5_isStep 2 (some .boolean), Cond.fieldLink RX5 25 "QueueReaderModel" "steps" "[I"]
def wsX5_agrees_r2 : List Cond := [Cond.methodLink RX5 130 yX5_seenCame, Cond.instanceMethod yX5_seenCame, Cond.selects RX5 yX5_seenCame yX5_seenCame, Cond.code yX5_seenCame cX5_seenCame 2 (some .int), Cond.fieldLink RX5 22 "QueueReaderModel" "start" "[I", Cond.fieldLink RX5 34 "QueueReaderModel" "isSeen" "[Z", Cond.fieldLink RX5 16 "QueueReaderModel" "delay" "[I", Cond.methodLink RX5 115 yX5_begins, Cond.instanceMethod yX5_begins, Cond.selects RX5 yX5_begins yX5_begins, Cond.code yX5_begins cX5_begins 7 none, Cond.methodLink RX5 97 yX5_busy, Cond.instanceMethod yX5_busy, Cond.selects RX5 yX5_busy yX5_busy, Cond.code yX5_busy cX5_busy 5 (some .int), Cond.methodLink RX5 101 yX5_next, Cond.instanceMethod yX5_next, Cond.selects RX5 yX5_next yX5_next, Cond.code yX5_next cX5_next 5 (some .int), Cond.methodLink RX5 93 yX5_isAhead, Cond.instanceMethod yX5_isAhead, Cond.selects RX5 yX5_isAhead yX5_isAhead, Cond.code yX5_isAhead cX5_isAhead 4 (some .boolean), Cond.fieldLink RX5 19 "QueueReaderModel" "kind" "[I"]
def wsX5_agrees : List Cond := .code yX5_agrees cX5_agrees 7 (some .boolean) :: ((wsX5_agrees_r1 ++ wsX5_agrees_r2) ++ wsX50)
def wsX5_found_r1 : List Cond := [Cond.fieldLink RX5 59 "QueueReaderModel" "thrown" "I", Cond.methodLink RX5 84 yX5_noPlace, Cond.instanceMethod yX5_noPlace, Cond.selects RX5 yX5_noPlace yX5_noPlace, Cond.initialized RX5, Cond.code yX5_noPlace cX5_noPlace 2 (some .boolean), Cond.fieldLink RX5 63 "QueueReaderModel" "places" "I", Cond.methodLink RX5 66 yX5_in, Cond.static yX5_in, Cond.code yX5_in cX5_in 3 (some .boolean), Cond.methodLink RX5 80 yX5_throwsIf, Cond.instanceMethod yX5_throwsIf, Cond.selects RX5 yX5_throwsIf yX5_throwsIf, Cond.code yX5_throwsIf cX5_throwsIf 3 (some .boolean), Cond.methodLink RX5 133 yX5_isWhole, Cond.instanceMethod yX5_isWhole, Cond.selects RX5 yX5_isWhole yX5_isWhole, Cond.code yX5_isWhole cX5_isWhole 5 (some .boolean), Cond.fieldLink RX5 28 "QueueReaderModel" "at" "[I", Cond.fieldLink RX5 34 "QueueReaderModel" "isSeen" "[Z", Cond.methodLink RX5 123 yX5_isStep, Cond.instanceMethod yX5_isStep, Cond.selects RX5 yX5_isStep yX5_isStep, Cond.code yX5_isStep cX5_isStep 2 (some .boolean)]
def wsX5_found_r2 : List Cond := [Cond.fieldLink RX5 70 "QueueReaderModel" "asks" "I", Cond.fieldLink RX5 25 "QueueReaderModel" "steps" "[I", Cond.methodLink RX5 130 yX5_seenCame, Cond.instanceMethod yX5_seenCame, Cond.selects RX5 yX5_seenCame yX5_seenCame, Cond.code yX5_seenCame cX5_seenCame 2 (some .int), Cond.fieldLink RX5 22 "QueueReaderModel" "start" "[I", Cond.fieldLink RX5 41 "QueueReaderModel" "seenDone" "[I", Cond.fieldLink RX5 16 "QueueReaderModel" "delay" "[I", Cond.methodLink RX5 136 yX5_agrees, Cond.instanceMethod yX5_agrees, Cond.selects RX5 yX5_agrees yX5_agrees, Cond.code yX5_agrees cX5_agrees 7 (some .boolean), Cond.fieldLink RX5 44 "QueueReaderModel" "came" "[I", Cond.fieldLink RX5 56 "QueueReaderModel" "pWork" "[I", Cond.fieldLink RX5 38 "QueueReaderModel" "seenBegun" "[I", Cond.constant RX5 96 (2000000000), Cond.methodLink RX5 107 Lib.Math.min.name, Cond.static Lib.Math.min.name, Cond.initialized "java/lang/Math", Cond.code Lib.Math.min.name Lib.Math.min.code 2 (some .int), Cond.fieldLink RX5 50 "QueueReaderModel" "done" "[I", Cond.fieldLink RX5 53 "QueueReaderModel" "waits" "[Z", Cond.fieldLink RX5 47 "QueueReaderModel" "begun" "[I"]
def wsX5_found_r3 : List Cond := [Cond.methodLink RX5 104 yX5_forgets, Cond.instanceMethod yX5_forgets, Cond.selects RX5 yX5_forgets yX5_forgets, Cond.code yX5_forgets cX5_forgets 2 none, Cond.methodLink RX5 115 yX5_begins, Cond.instanceMethod yX5_begins, Cond.selects RX5 yX5_begins yX5_begins, Cond.code yX5_begins cX5_begins 7 none, Cond.methodLink RX5 97 yX5_busy, Cond.instanceMethod yX5_busy, Cond.selects RX5 yX5_busy yX5_busy, Cond.code yX5_busy cX5_busy 5 (some .int), Cond.methodLink RX5 101 yX5_next, Cond.instanceMethod yX5_next, Cond.selects RX5 yX5_next yX5_next, Cond.code yX5_next cX5_next 5 (some .int), Cond.methodLink RX5 93 yX5_isAhead, Cond.instanceMethod yX5_isAhead, Cond.selects RX5 yX5_isAhead yX5_isAhead, Cond.code yX5_isAhead cX5_isAhead 4 (some .boolean), Cond.fieldLink RX5 19 "QueueReaderModel" "kind" "[I"]
def wsX5_found : List Cond := .code yX5_found cX5_found 5 (some .int) :: ((wsX5_found_r1 ++ (wsX5_found_r2 ++ wsX5_found_r3)) ++ wsX50)
def wsX5_overlap_r1 : List Cond := [Cond.fieldLink RX5 59 "QueueReaderModel" "thrown" "I", Cond.fieldLink RX5 28 "QueueReaderModel" "at" "[I", Cond.fieldLink RX5 34 "QueueReaderModel" "isSeen" "[Z", Cond.fieldLink RX5 38 "QueueReaderModel" "seenBegun" "[I", Cond.fieldLink RX5 41 "QueueReaderModel" "seenDone" "[I", Cond.methodLink RX5 112 Lib.Math.max.name, Cond.static Lib.Math.max.name, Cond.initialized "java/lang/Math", Cond.code Lib.Math.max.name Lib.Math.max.code 2 (some .int), Cond.methodLink RX5 84 yX5_noPlace, Cond.instanceMethod yX5_noPlace, Cond.selects RX5 yX5_noPlace yX5_noPlace, Cond.initialized RX5, Cond.code yX5_noPlace cX5_noPlace 2 (some .boolean), Cond.fieldLink RX5 63 "QueueReaderModel" "places" "I", Cond.methodLink RX5 66 yX5_in, Cond.static yX5_in, Cond.code yX5_in cX5_in 3 (some .boolean), Cond.methodLink RX5 80 yX5_throwsIf, Cond.instanceMethod yX5_throwsIf, Cond.selects RX5 yX5_throwsIf yX5_throwsIf, Cond.code yX5_throwsIf cX5_throwsIf 3 (some .boolean), Cond.methodLink RX5 123 yX5_isStep, Cond.instanceMethod yX5_isStep]
def wsX5_overlap_r2 : List Cond := [Cond.selects RX5 yX5_isStep yX5_isStep, Cond.code yX5_isStep cX5_isStep 2 (some .boolean), Cond.fieldLink RX5 70 "QueueReaderModel" "asks" "I", Cond.fieldLink RX5 25 "QueueReaderModel" "steps" "[I"]
def wsX5_overlap : List Cond := .code yX5_overlap cX5_overlap 6 (some .int) :: ((wsX5_overlap_r1 ++ wsX5_overlap_r2) ++ wsX50)
def wsX5_common : List Cond := .code yX5_common cX5_common 4 (some .long) :: ([.methodLink RX5 107 Lib.Math.min.name, .static Lib.Math.min.name, .initialized "java/lang/Math", .code Lib.Math.min.name Lib.Math.min.code 2 (some .int), .methodLink RX5 112 Lib.Math.max.name, .static Lib.Math.max.name, .code Lib.Math.max.name Lib.Math.max.code 2 (some .int), .methodLink RX5 139 Lib.MathLoose.max_long.x, .static Lib.MathLoose.max_long.x, .code Lib.MathLoose.max_long.x Lib.MathLoose.max_long.code 4 (some .long)])
def wsX5_counts_r1 : List Cond := [Cond.fieldLink RX5 59 "QueueReaderModel" "thrown" "I", Cond.constant RX5 92 (10000000), Cond.fieldLink RX5 28 "QueueReaderModel" "at" "[I", Cond.fieldLink RX5 34 "QueueReaderModel" "isSeen" "[Z", Cond.fieldLink RX5 44 "QueueReaderModel" "came" "[I", Cond.fieldLink RX5 38 "QueueReaderModel" "seenBegun" "[I", Cond.fieldLink RX5 47 "QueueReaderModel" "begun" "[I", Cond.fieldLink RX5 41 "QueueReaderModel" "seenDone" "[I", Cond.fieldLink RX5 50 "QueueReaderModel" "done" "[I", Cond.methodLink RX5 84 yX5_noPlace, Cond.instanceMethod yX5_noPlace, Cond.selects RX5 yX5_noPlace yX5_noPlace, Cond.initialized RX5, Cond.code yX5_noPlace cX5_noPlace 2 (some .boolean), Cond.fieldLink RX5 63 "QueueReaderModel" "places" "I", Cond.methodLink RX5 66 yX5_in, Cond.static yX5_in, Cond.code yX5_in cX5_in 3 (some .boolean), Cond.methodLink RX5 80 yX5_throwsIf, Cond.instanceMethod yX5_throwsIf, Cond.selects RX5 yX5_throwsIf yX5_throwsIf, Cond.code yX5_throwsIf cX5_throwsIf 3 (some .boolean), Cond.methodLink RX5 119 yX5_plays, Cond.instanceMethod yX5_plays]
def wsX5_counts_r2 : List Cond := [Cond.selects RX5 yX5_plays yX5_plays, Cond.code yX5_plays cX5_plays 5 (some .int), Cond.fieldLink RX5 56 "QueueReaderModel" "pWork" "[I", Cond.fieldLink RX5 31 "QueueReaderModel" "work" "[I", Cond.fieldLink RX5 70 "QueueReaderModel" "asks" "I", Cond.fieldLink RX5 22 "QueueReaderModel" "start" "[I", Cond.constant RX5 96 (2000000000), Cond.methodLink RX5 107 Lib.Math.min.name, Cond.static Lib.Math.min.name, Cond.initialized "java/lang/Math", Cond.code Lib.Math.min.name Lib.Math.min.code 2 (some .int), Cond.methodLink RX5 112 Lib.Math.max.name, Cond.static Lib.Math.max.name, Cond.code Lib.Math.max.name Lib.Math.max.code 2 (some .int), Cond.fieldLink RX5 25 "QueueReaderModel" "steps" "[I", Cond.fieldLink RX5 16 "QueueReaderModel" "delay" "[I", Cond.fieldLink RX5 53 "QueueReaderModel" "waits" "[Z", Cond.fieldLink RX5 9 "QueueReaderModel" "helpers" "[I", Cond.fieldLink RX5 13 "QueueReaderModel" "rule" "[I", Cond.methodLink RX5 104 yX5_forgets, Cond.instanceMethod yX5_forgets, Cond.selects RX5 yX5_forgets yX5_forgets, Cond.code yX5_forgets cX5_forgets 2 none, Cond.methodLink RX5 115 yX5_begins]
def wsX5_counts_r3 : List Cond := [Cond.instanceMethod yX5_begins, Cond.selects RX5 yX5_begins yX5_begins, Cond.code yX5_begins cX5_begins 7 none, Cond.methodLink RX5 97 yX5_busy, Cond.instanceMethod yX5_busy, Cond.selects RX5 yX5_busy yX5_busy, Cond.code yX5_busy cX5_busy 5 (some .int), Cond.methodLink RX5 101 yX5_next, Cond.instanceMethod yX5_next, Cond.selects RX5 yX5_next yX5_next, Cond.code yX5_next cX5_next 5 (some .int), Cond.methodLink RX5 93 yX5_isAhead, Cond.instanceMethod yX5_isAhead, Cond.selects RX5 yX5_isAhead yX5_isAhead, Cond.code yX5_isAhead cX5_isAhead 4 (some .boolean), Cond.fieldLink RX5 19 "QueueReaderModel" "kind" "[I", Cond.methodLink RX5 123 yX5_isStep, Cond.instanceMethod yX5_isStep, Cond.selects RX5 yX5_isStep yX5_isStep, Cond.code yX5_isStep cX5_isStep 2 (some .boolean), Cond.methodLink RX5 130 yX5_seenCame, Cond.instanceMethod yX5_seenCame, Cond.selects RX5 yX5_seenCame yX5_seenCame, Cond.code yX5_seenCame cX5_seenCame 2 (some .int)]
def wsX5_counts_r4 : List Cond := [Cond.methodLink RX5 142 yX5_common, Cond.static yX5_common, Cond.code yX5_common cX5_common 4 (some .long), Cond.methodLink RX5 139 Lib.MathLoose.max_long.x, Cond.static Lib.MathLoose.max_long.x, Cond.code Lib.MathLoose.max_long.x Lib.MathLoose.max_long.code 4 (some .long)]
def wsX5_counts : List Cond := .code yX5_counts cX5_counts 12 (some .long) :: ((wsX5_counts_r1 ++ (wsX5_counts_r2 ++ (wsX5_counts_r3 ++ wsX5_counts_r4))) ++ wsX50)
def wsX5_totalWith_r1 : List Cond := [Cond.fieldLink RX5 70 "QueueReaderModel" "asks" "I", Cond.fieldLink RX5 50 "QueueReaderModel" "done" "[I", Cond.fieldLink RX5 25 "QueueReaderModel" "steps" "[I", Cond.fieldLink RX5 22 "QueueReaderModel" "start" "[I", Cond.methodLink RX5 119 yX5_plays, Cond.instanceMethod yX5_plays, Cond.selects RX5 yX5_plays yX5_plays, Cond.initialized RX5, Cond.code yX5_plays cX5_plays 5 (some .int), Cond.fieldLink RX5 56 "QueueReaderModel" "pWork" "[I", Cond.fieldLink RX5 31 "QueueReaderModel" "work" "[I", Cond.fieldLink RX5 44 "QueueReaderModel" "came" "[I", Cond.constant RX5 96 (2000000000), Cond.methodLink RX5 107 Lib.Math.min.name, Cond.static Lib.Math.min.name, Cond.initialized "java/lang/Math", Cond.code Lib.Math.min.name Lib.Math.min.code 2 (some .int), Cond.methodLink RX5 112 Lib.Math.max.name, Cond.static Lib.Math.max.name, Cond.code Lib.Math.max.name Lib.Math.max.code 2 (some .int), Cond.fieldLink RX5 16 "QueueReaderModel" "delay" "[I", Cond.fieldLink RX5 28 "QueueReaderModel" "at" "[I", Cond.fieldLink RX5 47 "QueueReaderModel" "begun" "[I", Cond.fieldLink RX5 53 "QueueReaderModel" "waits" "[Z"]
def wsX5_totalWith_r2 : List Cond := [Cond.fieldLink RX5 63 "QueueReaderModel" "places" "I", Cond.fieldLink RX5 9 "QueueReaderModel" "helpers" "[I", Cond.fieldLink RX5 13 "QueueReaderModel" "rule" "[I", Cond.methodLink RX5 104 yX5_forgets, Cond.instanceMethod yX5_forgets, Cond.selects RX5 yX5_forgets yX5_forgets, Cond.code yX5_forgets cX5_forgets 2 none, Cond.methodLink RX5 115 yX5_begins, Cond.instanceMethod yX5_begins, Cond.selects RX5 yX5_begins yX5_begins, Cond.code yX5_begins cX5_begins 7 none, Cond.methodLink RX5 97 yX5_busy, Cond.instanceMethod yX5_busy, Cond.selects RX5 yX5_busy yX5_busy, Cond.code yX5_busy cX5_busy 5 (some .int), Cond.methodLink RX5 101 yX5_next, Cond.instanceMethod yX5_next, Cond.selects RX5 yX5_next yX5_next, Cond.code yX5_next cX5_next 5 (some .int), Cond.methodLink RX5 93 yX5_isAhead, Cond.instanceMethod yX5_isAhead, Cond.selects RX5 yX5_isAhead yX5_isAhead, Cond.code yX5_isAhead cX5_isAhead 4 (some .boolean), Cond.fieldLink RX5 19 "QueueReaderModel" "kind" "[I"]
def wsX5_totalWith : List Cond := .code yX5_totalWith cX5_totalWith 6 (some .long) :: ((wsX5_totalWith_r1 ++ wsX5_totalWith_r2) ++ wsX50)
def wsX5_total_r1 : List Cond := [Cond.fieldLink RX5 59 "QueueReaderModel" "thrown" "I", Cond.methodLink RX5 146 yX5_totalWith, Cond.instanceMethod yX5_totalWith, Cond.selects RX5 yX5_totalWith yX5_totalWith, Cond.initialized RX5, Cond.code yX5_totalWith cX5_totalWith 6 (some .long), Cond.fieldLink RX5 70 "QueueReaderModel" "asks" "I", Cond.fieldLink RX5 50 "QueueReaderModel" "done" "[I", Cond.fieldLink RX5 25 "QueueReaderModel" "steps" "[I", Cond.fieldLink RX5 22 "QueueReaderModel" "start" "[I", Cond.methodLink RX5 119 yX5_plays, Cond.instanceMethod yX5_plays, Cond.selects RX5 yX5_plays yX5_plays, Cond.code yX5_plays cX5_plays 5 (some .int), Cond.fieldLink RX5 56 "QueueReaderModel" "pWork" "[I", Cond.fieldLink RX5 31 "QueueReaderModel" "work" "[I", Cond.fieldLink RX5 44 "QueueReaderModel" "came" "[I", Cond.constant RX5 96 (2000000000), Cond.methodLink RX5 107 Lib.Math.min.name, Cond.static Lib.Math.min.name, Cond.initialized "java/lang/Math", Cond.code Lib.Math.min.name Lib.Math.min.code 2 (some .int), Cond.methodLink RX5 112 Lib.Math.max.name, Cond.static Lib.Math.max.name]
def wsX5_total_r2 : List Cond := [Cond.code Lib.Math.max.name Lib.Math.max.code 2 (some .int), Cond.fieldLink RX5 16 "QueueReaderModel" "delay" "[I", Cond.fieldLink RX5 28 "QueueReaderModel" "at" "[I", Cond.fieldLink RX5 47 "QueueReaderModel" "begun" "[I", Cond.fieldLink RX5 53 "QueueReaderModel" "waits" "[Z", Cond.fieldLink RX5 63 "QueueReaderModel" "places" "I", Cond.fieldLink RX5 9 "QueueReaderModel" "helpers" "[I", Cond.fieldLink RX5 13 "QueueReaderModel" "rule" "[I", Cond.methodLink RX5 104 yX5_forgets, Cond.instanceMethod yX5_forgets, Cond.selects RX5 yX5_forgets yX5_forgets, Cond.code yX5_forgets cX5_forgets 2 none, Cond.methodLink RX5 115 yX5_begins, Cond.instanceMethod yX5_begins, Cond.selects RX5 yX5_begins yX5_begins, Cond.code yX5_begins cX5_begins 7 none, Cond.methodLink RX5 97 yX5_busy, Cond.instanceMethod yX5_busy, Cond.selects RX5 yX5_busy yX5_busy, Cond.code yX5_busy cX5_busy 5 (some .int), Cond.methodLink RX5 101 yX5_next, Cond.instanceMethod yX5_next, Cond.selects RX5 yX5_next yX5_next, Cond.code yX5_next cX5_next 5 (some .int)]
def wsX5_total_r3 : List Cond := [Cond.methodLink RX5 93 yX5_isAhead, Cond.instanceMethod yX5_isAhead, Cond.selects RX5 yX5_isAhead yX5_isAhead, Cond.code yX5_isAhead cX5_isAhead 4 (some .boolean), Cond.fieldLink RX5 19 "QueueReaderModel" "kind" "[I"]
def wsX5_total : List Cond := .code yX5_total cX5_total 1 (some .long) :: ((wsX5_total_r1 ++ (wsX5_total_r2 ++ wsX5_total_r3)) ++ wsX50)
def wsX5_saved_r1 : List Cond := [Cond.fieldLink RX5 59 "QueueReaderModel" "thrown" "I", Cond.methodLink RX5 84 yX5_noPlace, Cond.instanceMethod yX5_noPlace, Cond.selects RX5 yX5_noPlace yX5_noPlace, Cond.initialized RX5, Cond.code yX5_noPlace cX5_noPlace 2 (some .boolean), Cond.fieldLink RX5 63 "QueueReaderModel" "places" "I", Cond.methodLink RX5 66 yX5_in, Cond.static yX5_in, Cond.code yX5_in cX5_in 3 (some .boolean), Cond.methodLink RX5 80 yX5_throwsIf, Cond.instanceMethod yX5_throwsIf, Cond.selects RX5 yX5_throwsIf yX5_throwsIf, Cond.code yX5_throwsIf cX5_throwsIf 3 (some .boolean), Cond.methodLink RX5 146 yX5_totalWith, Cond.instanceMethod yX5_totalWith, Cond.selects RX5 yX5_totalWith yX5_totalWith, Cond.code yX5_totalWith cX5_totalWith 6 (some .long), Cond.fieldLink RX5 70 "QueueReaderModel" "asks" "I", Cond.fieldLink RX5 50 "QueueReaderModel" "done" "[I", Cond.fieldLink RX5 25 "QueueReaderModel" "steps" "[I", Cond.fieldLink RX5 22 "QueueReaderModel" "start" "[I", Cond.methodLink RX5 119 yX5_plays, Cond.instanceMethod yX5_plays]
def wsX5_saved_r2 : List Cond := [Cond.selects RX5 yX5_plays yX5_plays, Cond.code yX5_plays cX5_plays 5 (some .int), Cond.fieldLink RX5 56 "QueueReaderModel" "pWork" "[I", Cond.fieldLink RX5 31 "QueueReaderModel" "work" "[I", Cond.fieldLink RX5 44 "QueueReaderModel" "came" "[I", Cond.constant RX5 96 (2000000000), Cond.methodLink RX5 107 Lib.Math.min.name, Cond.static Lib.Math.min.name, Cond.initialized "java/lang/Math", Cond.code Lib.Math.min.name Lib.Math.min.code 2 (some .int), Cond.methodLink RX5 112 Lib.Math.max.name, Cond.static Lib.Math.max.name, Cond.code Lib.Math.max.name Lib.Math.max.code 2 (some .int), Cond.fieldLink RX5 16 "QueueReaderModel" "delay" "[I", Cond.fieldLink RX5 28 "QueueReaderModel" "at" "[I", Cond.fieldLink RX5 47 "QueueReaderModel" "begun" "[I", Cond.fieldLink RX5 53 "QueueReaderModel" "waits" "[Z", Cond.fieldLink RX5 9 "QueueReaderModel" "helpers" "[I", Cond.fieldLink RX5 13 "QueueReaderModel" "rule" "[I", Cond.methodLink RX5 104 yX5_forgets, Cond.instanceMethod yX5_forgets, Cond.selects RX5 yX5_forgets yX5_forgets, Cond.code yX5_forgets cX5_forgets 2 none, Cond.methodLink RX5 115 yX5_begins]
def wsX5_saved_r3 : List Cond := [Cond.instanceMethod yX5_begins, Cond.selects RX5 yX5_begins yX5_begins, Cond.code yX5_begins cX5_begins 7 none, Cond.methodLink RX5 97 yX5_busy, Cond.instanceMethod yX5_busy, Cond.selects RX5 yX5_busy yX5_busy, Cond.code yX5_busy cX5_busy 5 (some .int), Cond.methodLink RX5 101 yX5_next, Cond.instanceMethod yX5_next, Cond.selects RX5 yX5_next yX5_next, Cond.code yX5_next cX5_next 5 (some .int), Cond.methodLink RX5 93 yX5_isAhead, Cond.instanceMethod yX5_isAhead, Cond.selects RX5 yX5_isAhead yX5_isAhead, Cond.code yX5_isAhead cX5_isAhead 4 (some .boolean), Cond.fieldLink RX5 19 "QueueReaderModel" "kind" "[I"]
def wsX5_saved : List Cond := .code yX5_saved cX5_saved 2 (some .long) :: ((wsX5_saved_r1 ++ (wsX5_saved_r2 ++ wsX5_saved_r3)) ++ wsX50)
def wsX5_narrow_r1 : List Cond := [Cond.fieldLink RX5 59 "QueueReaderModel" "thrown" "I", Cond.fieldLink RX5 63 "QueueReaderModel" "places" "I", Cond.methodLink RX5 146 yX5_totalWith, Cond.instanceMethod yX5_totalWith, Cond.selects RX5 yX5_totalWith yX5_totalWith, Cond.initialized RX5, Cond.code yX5_totalWith cX5_totalWith 6 (some .long), Cond.fieldLink RX5 70 "QueueReaderModel" "asks" "I", Cond.fieldLink RX5 50 "QueueReaderModel" "done" "[I", Cond.fieldLink RX5 25 "QueueReaderModel" "steps" "[I", Cond.fieldLink RX5 22 "QueueReaderModel" "start" "[I", Cond.methodLink RX5 119 yX5_plays, Cond.instanceMethod yX5_plays, Cond.selects RX5 yX5_plays yX5_plays, Cond.code yX5_plays cX5_plays 5 (some .int), Cond.fieldLink RX5 56 "QueueReaderModel" "pWork" "[I", Cond.fieldLink RX5 31 "QueueReaderModel" "work" "[I", Cond.fieldLink RX5 44 "QueueReaderModel" "came" "[I", Cond.constant RX5 96 (2000000000), Cond.methodLink RX5 107 Lib.Math.min.name, Cond.static Lib.Math.min.name, Cond.initialized "java/lang/Math", Cond.code Lib.Math.min.name Lib.Math.min.code 2 (some .int), Cond.methodLink RX5 112 Lib.Math.max.name]
def wsX5_narrow_r2 : List Cond := [Cond.static Lib.Math.max.name, Cond.code Lib.Math.max.name Lib.Math.max.code 2 (some .int), Cond.fieldLink RX5 16 "QueueReaderModel" "delay" "[I", Cond.fieldLink RX5 28 "QueueReaderModel" "at" "[I", Cond.fieldLink RX5 47 "QueueReaderModel" "begun" "[I", Cond.fieldLink RX5 53 "QueueReaderModel" "waits" "[Z", Cond.fieldLink RX5 9 "QueueReaderModel" "helpers" "[I", Cond.fieldLink RX5 13 "QueueReaderModel" "rule" "[I", Cond.methodLink RX5 104 yX5_forgets, Cond.instanceMethod yX5_forgets, Cond.selects RX5 yX5_forgets yX5_forgets, Cond.code yX5_forgets cX5_forgets 2 none, Cond.methodLink RX5 115 yX5_begins, Cond.instanceMethod yX5_begins, Cond.selects RX5 yX5_begins yX5_begins, Cond.code yX5_begins cX5_begins 7 none, Cond.methodLink RX5 97 yX5_busy, Cond.instanceMethod yX5_busy, Cond.selects RX5 yX5_busy yX5_busy, Cond.code yX5_busy cX5_busy 5 (some .int), Cond.methodLink RX5 101 yX5_next, Cond.instanceMethod yX5_next, Cond.selects RX5 yX5_next yX5_next, Cond.code yX5_next cX5_next 5 (some .int)]
def wsX5_narrow_r3 : List Cond := [Cond.methodLink RX5 93 yX5_isAhead, Cond.instanceMethod yX5_isAhead, Cond.selects RX5 yX5_isAhead yX5_isAhead, Cond.code yX5_isAhead cX5_isAhead 4 (some .boolean), Cond.fieldLink RX5 19 "QueueReaderModel" "kind" "[I"]
def wsX5_narrow : List Cond := .code yX5_narrow cX5_narrow 7 (some .int) :: ((wsX5_narrow_r1 ++ (wsX5_narrow_r2 ++ wsX5_narrow_r3)) ++ wsX50)
def wsX5_alone : List Cond := .code yX5_alone cX5_alone 4 (some .int) :: ([.fieldLink RX5 59 "QueueReaderModel" "thrown" "I", .fieldLink RX5 22 "QueueReaderModel" "start" "[I", .fieldLink RX5 25 "QueueReaderModel" "steps" "[I", .fieldLink RX5 31 "QueueReaderModel" "work" "[I", .fieldLink RX5 16 "QueueReaderModel" "delay" "[I", .fieldLink RX5 28 "QueueReaderModel" "at" "[I", .methodLink RX5 73 yX5_noAsk, .instanceMethod yX5_noAsk, .selects RX5 yX5_noAsk yX5_noAsk, .initialized RX5, .code yX5_noAsk cX5_noAsk 2 (some .boolean), .fieldLink RX5 70 "QueueReaderModel" "asks" "I", .methodLink RX5 66 yX5_in, .static yX5_in, .code yX5_in cX5_in 3 (some .boolean), .methodLink RX5 80 yX5_throwsIf, .instanceMethod yX5_throwsIf, .selects RX5 yX5_throwsIf yX5_throwsIf, .code yX5_throwsIf cX5_throwsIf 3 (some .boolean)] ++ wsX50)
def wsX5_count_r1 : List Cond := [Cond.fieldLink RX5 59 "QueueReaderModel" "thrown" "I", Cond.fieldLink RX5 63 "QueueReaderModel" "places" "I", Cond.fieldLink RX5 70 "QueueReaderModel" "asks" "I", Cond.fieldLink RX5 34 "QueueReaderModel" "isSeen" "[Z", Cond.methodLink RX5 126 yX5_stepsOfAll, Cond.instanceMethod yX5_stepsOfAll, Cond.selects RX5 yX5_stepsOfAll yX5_stepsOfAll, Cond.initialized RX5, Cond.code yX5_stepsOfAll cX5_stepsOfAll 3 (some .int), Cond.fieldLink RX5 25 "QueueReaderModel" "steps" "[I", Cond.methodLink RX5 123 yX5_isStep, Cond.instanceMethod yX5_isStep, Cond.selects RX5 yX5_isStep yX5_isStep, Cond.code yX5_isStep cX5_isStep 2 (some .boolean), Cond.methodLink RX5 119 yX5_plays, Cond.instanceMethod yX5_plays, Cond.selects RX5 yX5_plays yX5_plays, Cond.code yX5_plays cX5_plays 5 (some .int), Cond.fieldLink RX5 56 "QueueReaderModel" "pWork" "[I", Cond.fieldLink RX5 31 "QueueReaderModel" "work" "[I", Cond.fieldLink RX5 44 "QueueReaderModel" "came" "[I", Cond.fieldLink RX5 22 "QueueReaderModel" "start" "[I", Cond.constant RX5 96 (2000000000), Cond.methodLink RX5 107 Lib.Math.min.name]
def wsX5_count_r2 : List Cond := [Cond.static Lib.Math.min.name, Cond.initialized "java/lang/Math", Cond.code Lib.Math.min.name Lib.Math.min.code 2 (some .int), Cond.fieldLink RX5 50 "QueueReaderModel" "done" "[I", Cond.methodLink RX5 112 Lib.Math.max.name, Cond.static Lib.Math.max.name, Cond.code Lib.Math.max.name Lib.Math.max.code 2 (some .int), Cond.fieldLink RX5 16 "QueueReaderModel" "delay" "[I", Cond.fieldLink RX5 28 "QueueReaderModel" "at" "[I", Cond.fieldLink RX5 47 "QueueReaderModel" "begun" "[I", Cond.fieldLink RX5 53 "QueueReaderModel" "waits" "[Z", Cond.fieldLink RX5 9 "QueueReaderModel" "helpers" "[I", Cond.fieldLink RX5 13 "QueueReaderModel" "rule" "[I", Cond.methodLink RX5 104 yX5_forgets, Cond.instanceMethod yX5_forgets, Cond.selects RX5 yX5_forgets yX5_forgets, Cond.code yX5_forgets cX5_forgets 2 none, Cond.methodLink RX5 115 yX5_begins, Cond.instanceMethod yX5_begins, Cond.selects RX5 yX5_begins yX5_begins, Cond.code yX5_begins cX5_begins 7 none, Cond.methodLink RX5 97 yX5_busy, Cond.instanceMethod yX5_busy, Cond.selects RX5 yX5_busy yX5_busy]
def wsX5_count_r3 : List Cond := [Cond.code yX5_busy cX5_busy 5 (some .int), Cond.methodLink RX5 101 yX5_next, Cond.instanceMethod yX5_next, Cond.selects RX5 yX5_next yX5_next, Cond.code yX5_next cX5_next 5 (some .int), Cond.methodLink RX5 93 yX5_isAhead, Cond.instanceMethod yX5_isAhead, Cond.selects RX5 yX5_isAhead yX5_isAhead, Cond.code yX5_isAhead cX5_isAhead 4 (some .boolean), Cond.fieldLink RX5 19 "QueueReaderModel" "kind" "[I"]
def wsX5_count : List Cond := .code yX5_count cX5_count 4 (some .int) :: ((wsX5_count_r1 ++ (wsX5_count_r2 ++ wsX5_count_r3)) ++ wsX50)
def wsJ9_max_7cf53 : List Cond := .code yJ9_max_7cf53 cJ9_max_7cf53 2 (some .int) :: ([])
def wsJ9_max_f86c9 : List Cond := .code yJ9_max_f86c9 cJ9_max_f86c9 4 (some .long) :: ([])
def wsJ9_min_7cf53 : List Cond := .code yJ9_min_7cf53 cJ9_min_7cf53 2 (some .int) :: ([])
def wsL_place_r1 : List Cond := [Cond.classLink RL 13 "java/lang/IllegalArgumentException", Cond.classLink RL 15 "java/lang/UnsupportedOperationException", Cond.methodLink RL 7 yX4_place, Cond.instanceMethod yX4_place, Cond.selects RX4 yX4_place yX4_place, Cond.initialized RX4, Cond.code yX4_place cX4_place 5 (some .int), Cond.classLink RX4 52 "java/lang/UnsupportedOperationException", Cond.initialized "java/lang/UnsupportedOperationException", Cond.fieldLink RX4 12 "QueueReader" "net" "LQueueReader$Net;", Cond.fieldLink RX4 48 "QueueReader$Net" "places" "I", Cond.fieldLink RX4 40 "QueueReader" "isPlayFresh" "Z", Cond.methodLink RX4 44 yX4_needPlaceNumbers, Cond.static yX4_needPlaceNumbers, Cond.code yX4_needPlaceNumbers cX4_needPlaceNumbers 3 none, Cond.methodLink RX4 67 yX4_needWithin, Cond.static yX4_needWithin, Cond.code yX4_needWithin cX4_needWithin 3 none, Cond.classLink RX4 98 "java/lang/IllegalArgumentException", Cond.initialized "java/lang/IllegalArgumentException", Cond.methodLink RX4 59 yX1_setPlace, Cond.instanceMethod yX1_setPlace, Cond.selects RX1 yX1_setPlace yX1_setPlace, Cond.initialized RX1]
def wsL_place_r2 : List Cond := [Cond.code yX1_setPlace cX1_setPlace 5 none, Cond.fieldLink RX1 21 "QueueReader$Net" "helpers" "[I", Cond.fieldLink RX1 25 "QueueReader$Net" "rules" "[I", Cond.fieldLink RX1 28 "QueueReader$Net" "delays" "[I"]
def wsL_place : List Cond := .codeWith yL_place cL_place 6 (some .int) [(0, 12, 15, 13), (0, 12, 19, 15)] :: ((wsL_place_r1 ++ wsL_place_r2) ++ wsX40 ++ wsX10 ++ (vx_atS RX4 56 "java/lang/UnsupportedOperationException" ["java/lang/RuntimeException", "java/lang/Exception"]).filter goodWord ++ (vx_atS RX4 102 "java/lang/IllegalArgumentException" ["java/lang/RuntimeException", "java/lang/Exception"]).filter goodWord)
def wsL_change_r1 : List Cond := [Cond.classLink RL 21 "java/lang/IndexOutOfBoundsException", Cond.classLink RL 13 "java/lang/IllegalArgumentException", Cond.methodLink RL 17 yX4_change, Cond.instanceMethod yX4_change, Cond.selects RX4 yX4_change yX4_change, Cond.initialized RX4, Cond.code yX4_change cX4_change 5 none, Cond.fieldLink RX4 12 "QueueReader" "net" "LQueueReader$Net;", Cond.fieldLink RX4 40 "QueueReader" "isPlayFresh" "Z", Cond.methodLink RX4 63 yX4_needPlace, Cond.instanceMethod yX4_needPlace, Cond.selects RX4 yX4_needPlace yX4_needPlace, Cond.code yX4_needPlace cX4_needPlace 2 none, Cond.classLink RX4 214 "java/lang/IndexOutOfBoundsException", Cond.initialized "java/lang/IndexOutOfBoundsException", Cond.fieldLink RX4 48 "QueueReader$Net" "places" "I", Cond.methodLink RX4 44 yX4_needPlaceNumbers, Cond.static yX4_needPlaceNumbers, Cond.code yX4_needPlaceNumbers cX4_needPlaceNumbers 3 none, Cond.methodLink RX4 67 yX4_needWithin, Cond.static yX4_needWithin, Cond.code yX4_needWithin cX4_needWithin 3 none, Cond.classLink RX4 98 "java/lang/IllegalArgumentException", Cond.initialized "java/lang/IllegalArgumentException"]
def wsL_change_r2 : List Cond := [Cond.methodLink RX4 59 yX1_setPlace, Cond.instanceMethod yX1_setPlace, Cond.selects RX1 yX1_setPlace yX1_setPlace, Cond.initialized RX1, Cond.code yX1_setPlace cX1_setPlace 5 none, Cond.fieldLink RX1 21 "QueueReader$Net" "helpers" "[I", Cond.fieldLink RX1 25 "QueueReader$Net" "rules" "[I", Cond.fieldLink RX1 28 "QueueReader$Net" "delays" "[I"]
def wsL_change : List Cond := .codeWith yL_change cL_change 6 (some .int) [(0, 9, 12, 21), (0, 9, 16, 13)] :: ((wsL_change_r1 ++ wsL_change_r2) ++ wsX40 ++ wsX10 ++ (vx_atS RX4 218 "java/lang/IndexOutOfBoundsException" ["java/lang/RuntimeException", "java/lang/Exception"]).filter goodWord ++ (vx_atS RX4 102 "java/lang/IllegalArgumentException" ["java/lang/RuntimeException", "java/lang/Exception"]).filter goodWord)
def wsL_ask_r1 : List Cond := [Cond.classLink RL 21 "java/lang/IndexOutOfBoundsException", Cond.classLink RL 13 "java/lang/IllegalArgumentException", Cond.classLink RL 15 "java/lang/UnsupportedOperationException", Cond.methodLink RL 23 yX4_ask, Cond.instanceMethod yX4_ask, Cond.selects RX4 yX4_ask yX4_ask, Cond.initialized RX4, Cond.code yX4_ask cX4_ask 6 (some .int), Cond.classLink RX4 52 "java/lang/UnsupportedOperationException", Cond.initialized "java/lang/UnsupportedOperationException", Cond.constant RX4 70 (100000), Cond.fieldLink RX4 12 "QueueReader" "net" "LQueueReader$Net;", Cond.fieldLink RX4 71 "QueueReader$Net" "asks" "I", Cond.fieldLink RX4 76 "QueueReader$Net" "kinds" "[I", Cond.fieldLink RX4 80 "QueueReader$Net" "starts" "[I", Cond.fieldLink RX4 40 "QueueReader" "isPlayFresh" "Z", Cond.methodLink RX4 63 yX4_needPlace, Cond.instanceMethod yX4_needPlace, Cond.selects RX4 yX4_needPlace yX4_needPlace, Cond.code yX4_needPlace cX4_needPlace 2 none, Cond.classLink RX4 214 "java/lang/IndexOutOfBoundsException", Cond.initialized "java/lang/IndexOutOfBoundsException", Cond.fieldLink RX4 48 "QueueReader$Net" "places" "I", Cond.methodLink RX4 67 yX4_needWithin]
def wsL_ask_r2 : List Cond := [Cond.static yX4_needWithin, Cond.code yX4_needWithin cX4_needWithin 3 none, Cond.classLink RX4 98 "java/lang/IllegalArgumentException", Cond.initialized "java/lang/IllegalArgumentException", Cond.methodLink RX4 83 yX1_addStep, Cond.instanceMethod yX1_addStep, Cond.selects RX1 yX1_addStep yX1_addStep, Cond.initialized RX1, Cond.code yX1_addStep cX1_addStep 6 (some .int), Cond.fieldLink RX1 37 "QueueReader$Net" "lengths" "[I", Cond.fieldLink RX1 40 "QueueReader$Net" "stepPlaces" "[I", Cond.fieldLink RX1 43 "QueueReader$Net" "stepWorks" "[I", Cond.fieldLink RX1 18 "QueueReader$Net" "steps" "I", Cond.methodLink RX1 52 yX1_firstRow, Cond.instanceMethod yX1_firstRow, Cond.selects RX1 yX1_firstRow yX1_firstRow, Cond.code yX1_firstRow cX1_firstRow 2 (some .int)]
def wsL_ask : List Cond := .codeWith yL_ask cL_ask 7 (some .int) [(0, 14, 17, 21), (0, 14, 21, 13), (0, 14, 25, 15)] :: ((wsL_ask_r1 ++ wsL_ask_r2) ++ wsX40 ++ wsX10 ++ (vx_atS RX4 56 "java/lang/UnsupportedOperationException" ["java/lang/RuntimeException", "java/lang/Exception"]).filter goodWord ++ (vx_atS RX4 218 "java/lang/IndexOutOfBoundsException" ["java/lang/RuntimeException", "java/lang/Exception"]).filter goodWord ++ (vx_atS RX4 102 "java/lang/IllegalArgumentException" ["java/lang/RuntimeException", "java/lang/Exception"]).filter goodWord)
def wsL_step_r1 : List Cond := [Cond.classLink RL 21 "java/lang/IndexOutOfBoundsException", Cond.classLink RL 13 "java/lang/IllegalArgumentException", Cond.methodLink RL 27 yX4_step, Cond.instanceMethod yX4_step, Cond.selects RX4 yX4_step yX4_step, Cond.initialized RX4, Cond.code yX4_step cX4_step 4 (some .int), Cond.fieldLink RX4 12 "QueueReader" "net" "LQueueReader$Net;", Cond.fieldLink RX4 90 "QueueReader$Net" "lengths" "[I", Cond.fieldLink RX4 40 "QueueReader" "isPlayFresh" "Z", Cond.methodLink RX4 87 yX4_needAsk, Cond.instanceMethod yX4_needAsk, Cond.selects RX4 yX4_needAsk yX4_needAsk, Cond.code yX4_needAsk cX4_needAsk 2 none, Cond.classLink RX4 214 "java/lang/IndexOutOfBoundsException", Cond.initialized "java/lang/IndexOutOfBoundsException", Cond.fieldLink RX4 71 "QueueReader$Net" "asks" "I", Cond.methodLink RX4 63 yX4_needPlace, Cond.instanceMethod yX4_needPlace, Cond.selects RX4 yX4_needPlace yX4_needPlace, Cond.code yX4_needPlace cX4_needPlace 2 none, Cond.fieldLink RX4 48 "QueueReader$Net" "places" "I", Cond.methodLink RX4 67 yX4_needWithin, Cond.static yX4_needWithin]
def wsL_step_r2 : List Cond := [Cond.code yX4_needWithin cX4_needWithin 3 none, Cond.classLink RX4 98 "java/lang/IllegalArgumentException", Cond.initialized "java/lang/IllegalArgumentException", Cond.methodLink RX4 83 yX1_addStep, Cond.instanceMethod yX1_addStep, Cond.selects RX1 yX1_addStep yX1_addStep, Cond.initialized RX1, Cond.code yX1_addStep cX1_addStep 6 (some .int), Cond.fieldLink RX1 37 "QueueReader$Net" "lengths" "[I", Cond.fieldLink RX1 40 "QueueReader$Net" "stepPlaces" "[I", Cond.fieldLink RX1 43 "QueueReader$Net" "stepWorks" "[I", Cond.fieldLink RX1 18 "QueueReader$Net" "steps" "I", Cond.methodLink RX1 52 yX1_firstRow, Cond.instanceMethod yX1_firstRow, Cond.selects RX1 yX1_firstRow yX1_firstRow, Cond.code yX1_firstRow cX1_firstRow 2 (some .int)]
def wsL_step : List Cond := .codeWith yL_step cL_step 6 (some .int) [(0, 12, 15, 21), (0, 12, 19, 13)] :: ((wsL_step_r1 ++ wsL_step_r2) ++ wsX40 ++ wsX10 ++ (vx_atS RX4 218 "java/lang/IndexOutOfBoundsException" ["java/lang/RuntimeException", "java/lang/Exception"]).filter goodWord ++ (vx_atS RX4 102 "java/lang/IllegalArgumentException" ["java/lang/RuntimeException", "java/lang/Exception"]).filter goodWord)
def wsL_seen_r1 : List Cond := [Cond.classLink RL 21 "java/lang/IndexOutOfBoundsException", Cond.classLink RL 13 "java/lang/IllegalArgumentException", Cond.methodLink RL 30 yX4_seen, Cond.instanceMethod yX4_seen, Cond.selects RX4 yX4_seen yX4_seen, Cond.initialized RX4, Cond.code yX4_seen cX4_seen 6 none, Cond.classLink RX4 98 "java/lang/IllegalArgumentException", Cond.initialized "java/lang/IllegalArgumentException", Cond.constant RX4 97 (10000000), Cond.fieldLink RX4 19 "QueueReader" "told" "LQueueReader$Tracks;", Cond.methodLink RX4 93 yX4_needStep, Cond.instanceMethod yX4_needStep, Cond.selects RX4 yX4_needStep yX4_needStep, Cond.code yX4_needStep cX4_needStep 3 (some .int), Cond.classLink RX4 214 "java/lang/IndexOutOfBoundsException", Cond.initialized "java/lang/IndexOutOfBoundsException", Cond.fieldLink RX4 12 "QueueReader" "net" "LQueueReader$Net;", Cond.fieldLink RX4 90 "QueueReader$Net" "lengths" "[I", Cond.methodLink RX4 87 yX4_needAsk, Cond.instanceMethod yX4_needAsk, Cond.selects RX4 yX4_needAsk yX4_needAsk, Cond.code yX4_needAsk cX4_needAsk 2 none, Cond.fieldLink RX4 71 "QueueReader$Net" "asks" "I"]
def wsL_seen_r2 : List Cond := [Cond.methodLink RX4 167 yX1_firstRow, Cond.instanceMethod yX1_firstRow, Cond.selects RX1 yX1_firstRow yX1_firstRow, Cond.initialized RX1, Cond.code yX1_firstRow cX1_firstRow 2 (some .int), Cond.methodLink RX4 67 yX4_needWithin, Cond.static yX4_needWithin, Cond.code yX4_needWithin cX4_needWithin 3 none, Cond.methodLink RX4 103 yX3_tell, Cond.instanceMethod yX3_tell, Cond.selects RX3 yX3_tell yX3_tell, Cond.initialized RX3, Cond.code yX3_tell cX3_tell 4 none, Cond.fieldLink RX3 9 "QueueReader$Tracks" "isSeen" "[Z", Cond.fieldLink RX3 15 "QueueReader$Tracks" "begun" "[I", Cond.fieldLink RX3 19 "QueueReader$Tracks" "done" "[I"]
def wsL_seen : List Cond := .codeWith yL_seen cL_seen 6 (some .int) [(0, 9, 12, 21), (0, 9, 16, 13)] :: ((wsL_seen_r1 ++ wsL_seen_r2) ++ wsX40 ++ wsX10 ++ wsX30 ++ (vx_atS RX4 102 "java/lang/IllegalArgumentException" ["java/lang/RuntimeException", "java/lang/Exception"]).filter goodWord ++ (vx_atS RX4 218 "java/lang/IndexOutOfBoundsException" ["java/lang/RuntimeException", "java/lang/Exception"]).filter goodWord)
def wsL_unsee_r1 : List Cond := [Cond.classLink RL 21 "java/lang/IndexOutOfBoundsException", Cond.methodLink RL 33 yX4_unsee, Cond.instanceMethod yX4_unsee, Cond.selects RX4 yX4_unsee yX4_unsee, Cond.initialized RX4, Cond.code yX4_unsee cX4_unsee 5 (some .boolean), Cond.fieldLink RX4 19 "QueueReader" "told" "LQueueReader$Tracks;", Cond.fieldLink RX4 106 "QueueReader$Tracks" "isSeen" "[Z", Cond.methodLink RX4 93 yX4_needStep, Cond.instanceMethod yX4_needStep, Cond.selects RX4 yX4_needStep yX4_needStep, Cond.code yX4_needStep cX4_needStep 3 (some .int), Cond.classLink RX4 214 "java/lang/IndexOutOfBoundsException", Cond.initialized "java/lang/IndexOutOfBoundsException", Cond.fieldLink RX4 12 "QueueReader" "net" "LQueueReader$Net;", Cond.fieldLink RX4 90 "QueueReader$Net" "lengths" "[I", Cond.methodLink RX4 87 yX4_needAsk, Cond.instanceMethod yX4_needAsk, Cond.selects RX4 yX4_needAsk yX4_needAsk, Cond.code yX4_needAsk cX4_needAsk 2 none, Cond.fieldLink RX4 71 "QueueReader$Net" "asks" "I", Cond.methodLink RX4 167 yX1_firstRow, Cond.instanceMethod yX1_firstRow, Cond.selects RX1 yX1_firstRow yX1_firstRow]
def wsL_unsee_r2 : List Cond := [Cond.initialized RX1, Cond.code yX1_firstRow cX1_firstRow 2 (some .int)]
def wsL_unsee : List Cond := .codeWith yL_unsee cL_unsee 5 (some .int) [(0, 17, 20, 21)] :: ((wsL_unsee_r1 ++ wsL_unsee_r2) ++ wsX40 ++ wsX30 ++ wsX10 ++ (vx_atS RX4 218 "java/lang/IndexOutOfBoundsException" ["java/lang/RuntimeException", "java/lang/Exception"]).filter goodWord)
def wsL_played_r1 : List Cond := [Cond.classLink RL 21 "java/lang/IndexOutOfBoundsException", Cond.classLink RL 40 "java/util/NoSuchElementException", Cond.methodLink RL 37 yX4_played, Cond.instanceMethod yX4_played, Cond.selects RX4 yX4_played yX4_played, Cond.initialized RX4, Cond.code yX4_played cX4_played 5 (some .int), Cond.fieldLink RX4 33 "QueueReader" "play" "LQueueReader$Play;", Cond.fieldLink RX4 117 "QueueReader$Play" "came" "[I", Cond.fieldLink RX4 120 "QueueReader$Play" "begun" "[I", Cond.fieldLink RX4 123 "QueueReader$Play" "done" "[I", Cond.methodLink RX4 93 yX4_needStep, Cond.instanceMethod yX4_needStep, Cond.selects RX4 yX4_needStep yX4_needStep, Cond.code yX4_needStep cX4_needStep 3 (some .int), Cond.classLink RX4 214 "java/lang/IndexOutOfBoundsException", Cond.initialized "java/lang/IndexOutOfBoundsException", Cond.fieldLink RX4 12 "QueueReader" "net" "LQueueReader$Net;", Cond.fieldLink RX4 90 "QueueReader$Net" "lengths" "[I", Cond.methodLink RX4 87 yX4_needAsk, Cond.instanceMethod yX4_needAsk, Cond.selects RX4 yX4_needAsk yX4_needAsk, Cond.code yX4_needAsk cX4_needAsk 2 none, Cond.fieldLink RX4 71 "QueueReader$Net" "asks" "I"]
def wsL_played_r2 : List Cond := [Cond.methodLink RX4 167 yX1_firstRow, Cond.instanceMethod yX1_firstRow, Cond.selects RX1 yX1_firstRow yX1_firstRow, Cond.initialized RX1, Cond.code yX1_firstRow cX1_firstRow 2 (some .int), Cond.methodLink RX4 110 yX4_needWhat, Cond.static yX4_needWhat, Cond.code yX4_needWhat cX4_needWhat 2 none, Cond.classLink RX4 225 "java/util/NoSuchElementException", Cond.initialized "java/util/NoSuchElementException", Cond.methodLink RX4 114 yX4_refreshPlay, Cond.instanceMethod yX4_refreshPlay, Cond.selects RX4 yX4_refreshPlay yX4_refreshPlay, Cond.code yX4_refreshPlay cX4_refreshPlay 1 none, Cond.fieldLink RX4 40 "QueueReader" "isPlayFresh" "Z", Cond.methodLink RX4 210 yX2_run, Cond.instanceMethod yX2_run, Cond.selects RX2 yX2_run yX2_run, Cond.initialized RX2, Cond.code yX2_run cX2_run 6 none, Cond.constant RX2 44 (1000000000), Cond.fieldLink RX2 48 "QueueReader$Net" "places" "I", Cond.methodLink RX2 36 yX2_open, Cond.instanceMethod yX2_open]
def wsL_played_r3 : List Cond := [Cond.selects RX2 yX2_open yX2_open, Cond.code yX2_open cX2_open 4 none, Cond.fieldLink RX2 30 "QueueReader$Play" "free" "[I", Cond.fieldLink RX2 74 "QueueReader$Net" "helpers" "[I", Cond.fieldLink RX2 33 "QueueReader$Play" "waiting" "[I", Cond.fieldLink RX2 58 "QueueReader$Net" "asks" "I", Cond.fieldLink RX2 21 "QueueReader$Play" "states" "[I", Cond.fieldLink RX2 24 "QueueReader$Play" "rows" "[I", Cond.fieldLink RX2 27 "QueueReader$Play" "dues" "[I", Cond.fieldLink RX2 65 "QueueReader$Net" "starts" "[I", Cond.methodLink RX2 77 yX1_firstRow, Cond.methodLink RX2 40 yX2_nextTick, Cond.instanceMethod yX2_nextTick, Cond.selects RX2 yX2_nextTick yX2_nextTick, Cond.code yX2_nextTick cX2_nextTick 4 (some .int), Cond.methodLink RX2 80 Lib.Math.min.name, Cond.static Lib.Math.min.name, Cond.initialized "java/lang/Math", Cond.code Lib.Math.min.name Lib.Math.min.code 2 (some .int), Cond.methodLink RX2 45 yX2_advance, Cond.instanceMethod yX2_advance, Cond.selects RX2 yX2_advance yX2_advance, Cond.code yX2_advance cX2_advance 4 none, Cond.methodLink RX2 83 yX2_finish]
def wsL_played_r4 : List Cond := [Cond.instanceMethod yX2_finish, Cond.selects RX2 yX2_finish yX2_finish, Cond.code yX2_finish cX2_finish 6 none, Cond.fieldLink RX2 89 "QueueReader$Net" "stepPlaces" "[I", Cond.fieldLink RX2 92 "QueueReader$Net" "delays" "[I", Cond.methodLink RX2 61 yX1_lastRow, Cond.instanceMethod yX1_lastRow, Cond.selects RX1 yX1_lastRow yX1_lastRow, Cond.code yX1_lastRow cX1_lastRow 2 (some .int), Cond.fieldLink RX1 37 "QueueReader$Net" "lengths" "[I", Cond.methodLink RX1 52 yX1_firstRow, Cond.methodLink RX2 86 yX2_arrive, Cond.instanceMethod yX2_arrive, Cond.selects RX2 yX2_arrive yX2_arrive, Cond.code yX2_arrive cX2_arrive 5 none, Cond.fieldLink RX2 9 "QueueReader$Play" "came" "[I", Cond.methodLink RX2 54 yX2_beginAt, Cond.instanceMethod yX2_beginAt, Cond.selects RX2 yX2_beginAt yX2_beginAt, Cond.code yX2_beginAt cX2_beginAt 7 none, Cond.fieldLink RX2 15 "QueueReader$Play" "begun" "[I", Cond.fieldLink RX2 18 "QueueReader$Play" "done" "[I", Cond.fieldLink RX2 99 "QueueReader$Net" "stepWorks" "[I", Cond.methodLink RX2 95 yX2_firstWaiting]
def wsL_played_r5 : List Cond := [Cond.instanceMethod yX2_firstWaiting, Cond.selects RX2 yX2_firstWaiting yX2_firstWaiting, Cond.code yX2_firstWaiting cX2_firstWaiting 10 (some .int), Cond.fieldLink RX2 102 "QueueReader$Net" "rules" "[I", Cond.fieldLink RX2 105 "QueueReader$Net" "kinds" "[I", Cond.static yX4_rank, Cond.code yX4_rank cX4_rank 4 (some .long), Cond.constantLong RX4 230 (1000000000)]
def wsL_played : List Cond := .codeWith yL_played cL_played 6 (some .int) [(0, 12, 15, 21), (0, 12, 19, 40)] :: ((wsL_played_r1 ++ (wsL_played_r2 ++ (wsL_played_r3 ++ (wsL_played_r4 ++ wsL_played_r5)))) ++ wsX40 ++ wsX20 ++ wsX10 ++ (vx_atS RX4 218 "java/lang/IndexOutOfBoundsException" ["java/lang/RuntimeException", "java/lang/Exception"]).filter goodWord ++ (vx_atS RX4 229 "java/util/NoSuchElementException" ["java/lang/RuntimeException", "java/lang/Exception"]).filter goodWord)
def wsL_found_r1 : List Cond := [Cond.classLink RL 21 "java/lang/IndexOutOfBoundsException", Cond.methodLink RL 42 yX4_found, Cond.instanceMethod yX4_found, Cond.selects RX4 yX4_found yX4_found, Cond.initialized RX4, Cond.code yX4_found cX4_found 3 (some .int), Cond.fieldLink RX4 26 "QueueReader" "fit" "LQueueReader$Fit;", Cond.fieldLink RX4 12 "QueueReader" "net" "LQueueReader$Net;", Cond.fieldLink RX4 19 "QueueReader" "told" "LQueueReader$Tracks;", Cond.methodLink RX4 63 yX4_needPlace, Cond.instanceMethod yX4_needPlace, Cond.selects RX4 yX4_needPlace yX4_needPlace, Cond.code yX4_needPlace cX4_needPlace 2 none, Cond.classLink RX4 214 "java/lang/IndexOutOfBoundsException", Cond.initialized "java/lang/IndexOutOfBoundsException", Cond.fieldLink RX4 48 "QueueReader$Net" "places" "I", Cond.methodLink RX4 139 yX0_gather, Cond.instanceMethod yX0_gather, Cond.selects RX0 yX0_gather yX0_gather, Cond.initialized RX0, Cond.code yX0_gather cX0_gather 6 none, Cond.fieldLink RX0 9 "QueueReader$Fit" "size" "I", Cond.fieldLink RX0 15 "QueueReader$Fit" "isWhole" "Z", Cond.fieldLink RX0 42 "QueueReader$Net" "stepPlaces" "[I"]
def wsL_found_r2 : List Cond := [Cond.fieldLink RX0 51 "QueueReader$Tracks" "isSeen" "[Z", Cond.fieldLink RX0 19 "QueueReader$Fit" "came" "[I", Cond.fieldLink RX0 23 "QueueReader$Fit" "begun" "[I", Cond.fieldLink RX0 55 "QueueReader$Tracks" "begun" "[I", Cond.fieldLink RX0 26 "QueueReader$Fit" "done" "[I", Cond.fieldLink RX0 56 "QueueReader$Tracks" "done" "[I", Cond.fieldLink RX0 29 "QueueReader$Fit" "kinds" "[I", Cond.fieldLink RX0 57 "QueueReader$Net" "kinds" "[I", Cond.methodLink RX0 36 yX1_rowsEnd, Cond.instanceMethod yX1_rowsEnd, Cond.selects RX1 yX1_rowsEnd yX1_rowsEnd, Cond.initialized RX1, Cond.code yX1_rowsEnd cX1_rowsEnd 1 (some .int), Cond.fieldLink RX1 15 "QueueReader$Net" "asks" "I", Cond.methodLink RX0 45 yX3_cameOf, Cond.instanceMethod yX3_cameOf, Cond.selects RX3 yX3_cameOf yX3_cameOf, Cond.initialized RX3, Cond.code yX3_cameOf cX3_cameOf 4 (some .int), Cond.fieldLink RX3 9 "QueueReader$Tracks" "isSeen" "[Z", Cond.fieldLink RX3 28 "QueueReader$Net" "starts" "[I", Cond.fieldLink RX3 19 "QueueReader$Tracks" "done" "[I", Cond.fieldLink RX3 31 "QueueReader$Net" "delays" "[I", Cond.fieldLink RX3 34 "QueueReader$Net" "stepPlaces" "[I"]
def wsL_found_r3 : List Cond := [Cond.methodLink RX4 143 yX0_firstRule, Cond.instanceMethod yX0_firstRule, Cond.selects RX0 yX0_firstRule yX0_firstRule, Cond.code yX0_firstRule cX0_firstRule 2 (some .int), Cond.methodLink RX0 71 yX0_mostAtOnce, Cond.instanceMethod yX0_mostAtOnce, Cond.selects RX0 yX0_mostAtOnce yX0_mostAtOnce, Cond.code yX0_mostAtOnce cX0_mostAtOnce 3 (some .int), Cond.methodLink RX0 62 Lib.Math.max.name, Cond.static Lib.Math.max.name, Cond.initialized "java/lang/Math", Cond.code Lib.Math.max.name Lib.Math.max.code 2 (some .int), Cond.methodLink RX0 58 yX0_helpedAt, Cond.instanceMethod yX0_helpedAt, Cond.selects RX0 yX0_helpedAt yX0_helpedAt, Cond.code yX0_helpedAt cX0_helpedAt 4 (some .int), Cond.methodLink RX0 74 yX0_isPossible, Cond.instanceMethod yX0_isPossible, Cond.selects RX0 yX0_isPossible yX0_isPossible, Cond.code yX0_isPossible cX0_isPossible 3 (some .boolean), Cond.methodLink RX0 81 yX0_isIdleAt, Cond.instanceMethod yX0_isIdleAt, Cond.selects RX0 yX0_isIdleAt yX0_isIdleAt, Cond.code yX0_isIdleAt cX0_isIdleAt 4 (some .boolean)]
def wsL_found_r4 : List Cond := [Cond.methodLink RX0 85 yX0_isLeftAt, Cond.instanceMethod yX0_isLeftAt, Cond.selects RX0 yX0_isLeftAt yX0_isLeftAt, Cond.code yX0_isLeftAt cX0_isLeftAt 3 (some .boolean), Cond.methodLink RX0 78 yX0_isOrderedBy, Cond.instanceMethod yX0_isOrderedBy, Cond.selects RX0 yX0_isOrderedBy yX0_isOrderedBy, Cond.code yX0_isOrderedBy cX0_isOrderedBy 4 (some .boolean), Cond.fieldLink RX0 32 "QueueReader$Fit" "ranks" "[J", Cond.static yX4_rank, Cond.code yX4_rank cX4_rank 4 (some .long), Cond.constantLong RX4 230 (1000000000), Cond.methodLink RX0 92 yX0_isAhead, Cond.instanceMethod yX0_isAhead, Cond.selects RX0 yX0_isAhead yX0_isAhead, Cond.code yX0_isAhead cX0_isAhead 3 (some .boolean), Cond.methodLink RX4 146 yX0_leastHelpers, Cond.instanceMethod yX0_leastHelpers, Cond.selects RX0 yX0_leastHelpers yX0_leastHelpers, Cond.code yX0_leastHelpers cX0_leastHelpers 1 (some .int), Cond.methodLink RX0 68 yX0_firstRule]
def wsL_found : List Cond := .codeWith yL_found cL_found 5 (some .int) [(0, 10, 13, 21)] :: ((wsL_found_r1 ++ (wsL_found_r2 ++ (wsL_found_r3 ++ wsL_found_r4))) ++ wsX40 ++ wsX10 ++ wsX00 ++ wsX30 ++ (vx_atS RX4 218 "java/lang/IndexOutOfBoundsException" ["java/lang/RuntimeException", "java/lang/Exception"]).filter goodWord)
def wsL_overlap_r1 : List Cond := [Cond.classLink RL 21 "java/lang/IndexOutOfBoundsException", Cond.methodLink RL 46 yX4_overlap, Cond.instanceMethod yX4_overlap, Cond.selects RX4 yX4_overlap yX4_overlap, Cond.initialized RX4, Cond.code yX4_overlap cX4_overlap 2 (some .int), Cond.fieldLink RX4 26 "QueueReader" "fit" "LQueueReader$Fit;", Cond.fieldLink RX4 12 "QueueReader" "net" "LQueueReader$Net;", Cond.fieldLink RX4 19 "QueueReader" "told" "LQueueReader$Tracks;", Cond.methodLink RX4 63 yX4_needPlace, Cond.instanceMethod yX4_needPlace, Cond.selects RX4 yX4_needPlace yX4_needPlace, Cond.code yX4_needPlace cX4_needPlace 2 none, Cond.classLink RX4 214 "java/lang/IndexOutOfBoundsException", Cond.initialized "java/lang/IndexOutOfBoundsException", Cond.fieldLink RX4 48 "QueueReader$Net" "places" "I", Cond.methodLink RX4 139 yX0_gather, Cond.instanceMethod yX0_gather, Cond.selects RX0 yX0_gather yX0_gather, Cond.initialized RX0, Cond.code yX0_gather cX0_gather 6 none, Cond.fieldLink RX0 9 "QueueReader$Fit" "size" "I", Cond.fieldLink RX0 15 "QueueReader$Fit" "isWhole" "Z", Cond.fieldLink RX0 42 "QueueReader$Net" "stepPlaces" "[I"]
def wsL_overlap_r2 : List Cond := [Cond.fieldLink RX0 51 "QueueReader$Tracks" "isSeen" "[Z", Cond.fieldLink RX0 19 "QueueReader$Fit" "came" "[I", Cond.fieldLink RX0 23 "QueueReader$Fit" "begun" "[I", Cond.fieldLink RX0 55 "QueueReader$Tracks" "begun" "[I", Cond.fieldLink RX0 26 "QueueReader$Fit" "done" "[I", Cond.fieldLink RX0 56 "QueueReader$Tracks" "done" "[I", Cond.fieldLink RX0 29 "QueueReader$Fit" "kinds" "[I", Cond.fieldLink RX0 57 "QueueReader$Net" "kinds" "[I", Cond.methodLink RX0 36 yX1_rowsEnd, Cond.instanceMethod yX1_rowsEnd, Cond.selects RX1 yX1_rowsEnd yX1_rowsEnd, Cond.initialized RX1, Cond.code yX1_rowsEnd cX1_rowsEnd 1 (some .int), Cond.fieldLink RX1 15 "QueueReader$Net" "asks" "I", Cond.methodLink RX0 45 yX3_cameOf, Cond.instanceMethod yX3_cameOf, Cond.selects RX3 yX3_cameOf yX3_cameOf, Cond.initialized RX3, Cond.code yX3_cameOf cX3_cameOf 4 (some .int), Cond.fieldLink RX3 9 "QueueReader$Tracks" "isSeen" "[Z", Cond.fieldLink RX3 28 "QueueReader$Net" "starts" "[I", Cond.fieldLink RX3 19 "QueueReader$Tracks" "done" "[I", Cond.fieldLink RX3 31 "QueueReader$Net" "delays" "[I", Cond.fieldLink RX3 34 "QueueReader$Net" "stepPlaces" "[I"]
def wsL_overlap_r3 : List Cond := [Cond.methodLink RX4 149 yX0_mostAtOnce, Cond.instanceMethod yX0_mostAtOnce, Cond.selects RX0 yX0_mostAtOnce yX0_mostAtOnce, Cond.code yX0_mostAtOnce cX0_mostAtOnce 3 (some .int), Cond.methodLink RX0 62 Lib.Math.max.name, Cond.static Lib.Math.max.name, Cond.initialized "java/lang/Math", Cond.code Lib.Math.max.name Lib.Math.max.code 2 (some .int), Cond.methodLink RX0 58 yX0_helpedAt, Cond.instanceMethod yX0_helpedAt, Cond.selects RX0 yX0_helpedAt yX0_helpedAt, Cond.code yX0_helpedAt cX0_helpedAt 4 (some .int)]
def wsL_overlap : List Cond := .codeWith yL_overlap cL_overlap 4 (some .int) [(0, 9, 12, 21)] :: ((wsL_overlap_r1 ++ (wsL_overlap_r2 ++ wsL_overlap_r3)) ++ wsX40 ++ wsX10 ++ wsX00 ++ wsX30 ++ (vx_atS RX4 218 "java/lang/IndexOutOfBoundsException" ["java/lang/RuntimeException", "java/lang/Exception"]).filter goodWord)
def wsL_counts_r1 : List Cond := [Cond.classLink RL 21 "java/lang/IndexOutOfBoundsException", Cond.classLink RL 13 "java/lang/IllegalArgumentException", Cond.classLink RL 40 "java/util/NoSuchElementException", Cond.methodLink RL 50 yX4_counts, Cond.instanceMethod yX4_counts, Cond.selects RX4 yX4_counts yX4_counts, Cond.initialized RX4, Cond.code yX4_counts cX4_counts 6 (some .long), Cond.constant RX4 97 (10000000), Cond.methodLink RX4 63 yX4_needPlace, Cond.instanceMethod yX4_needPlace, Cond.selects RX4 yX4_needPlace yX4_needPlace, Cond.code yX4_needPlace cX4_needPlace 2 none, Cond.classLink RX4 214 "java/lang/IndexOutOfBoundsException", Cond.initialized "java/lang/IndexOutOfBoundsException", Cond.fieldLink RX4 12 "QueueReader" "net" "LQueueReader$Net;", Cond.fieldLink RX4 48 "QueueReader$Net" "places" "I", Cond.methodLink RX4 67 yX4_needWithin, Cond.static yX4_needWithin, Cond.code yX4_needWithin cX4_needWithin 3 none, Cond.classLink RX4 98 "java/lang/IllegalArgumentException", Cond.initialized "java/lang/IllegalArgumentException", Cond.methodLink RX4 110 yX4_needWhat, Cond.static yX4_needWhat]
def wsL_counts_r2 : List Cond := [Cond.code yX4_needWhat cX4_needWhat 2 none, Cond.classLink RX4 225 "java/util/NoSuchElementException", Cond.initialized "java/util/NoSuchElementException", Cond.methodLink RX4 152 yX4_countsByTracks, Cond.instanceMethod yX4_countsByTracks, Cond.selects RX4 yX4_countsByTracks yX4_countsByTracks, Cond.code yX4_countsByTracks cX4_countsByTracks 9 (some .long), Cond.fieldLink RX4 180 "QueueReader$Net" "stepPlaces" "[I", Cond.fieldLink RX4 19 "QueueReader" "told" "LQueueReader$Tracks;", Cond.fieldLink RX4 137 "QueueReader$Tracks" "begun" "[I", Cond.fieldLink RX4 138 "QueueReader$Tracks" "done" "[I", Cond.methodLink RX4 126 yX1_rowsEnd, Cond.instanceMethod yX1_rowsEnd, Cond.selects RX1 yX1_rowsEnd yX1_rowsEnd, Cond.initialized RX1, Cond.code yX1_rowsEnd cX1_rowsEnd 1 (some .int), Cond.fieldLink RX1 15 "QueueReader$Net" "asks" "I", Cond.methodLink RX4 194 yX3_cameOf, Cond.instanceMethod yX3_cameOf, Cond.selects RX3 yX3_cameOf yX3_cameOf, Cond.initialized RX3, Cond.code yX3_cameOf cX3_cameOf 4 (some .int), Cond.fieldLink RX3 9 "QueueReader$Tracks" "isSeen" "[Z", Cond.fieldLink RX3 28 "QueueReader$Net" "starts" "[I"]
def wsL_counts_r3 : List Cond := [Cond.fieldLink RX3 19 "QueueReader$Tracks" "done" "[I", Cond.fieldLink RX3 31 "QueueReader$Net" "delays" "[I", Cond.fieldLink RX3 34 "QueueReader$Net" "stepPlaces" "[I", Cond.methodLink RX4 190 yX4_share, Cond.static yX4_share, Cond.code yX4_share cX4_share 6 (some .int), Cond.methodLink RX4 198 yX4_ticksShared, Cond.static yX4_ticksShared, Cond.code yX4_ticksShared cX4_ticksShared 4 (some .int), Cond.methodLink RX4 202 Lib.Math.min.name, Cond.static Lib.Math.min.name, Cond.initialized "java/lang/Math", Cond.code Lib.Math.min.name Lib.Math.min.code 2 (some .int), Cond.methodLink RX4 207 Lib.Math.max.name, Cond.static Lib.Math.max.name, Cond.code Lib.Math.max.name Lib.Math.max.code 2 (some .int), Cond.methodLink RX4 156 yX4_countsByPlay, Cond.instanceMethod yX4_countsByPlay, Cond.selects RX4 yX4_countsByPlay yX4_countsByPlay, Cond.code yX4_countsByPlay cX4_countsByPlay 8 (some .long), Cond.fieldLink RX4 33 "QueueReader" "play" "LQueueReader$Play;", Cond.fieldLink RX4 117 "QueueReader$Play" "came" "[I", Cond.fieldLink RX4 120 "QueueReader$Play" "begun" "[I", Cond.fieldLink RX4 123 "QueueReader$Play" "done" "[I"]
def wsL_counts_r4 : List Cond := [Cond.methodLink RX4 114 yX4_refreshPlay, Cond.instanceMethod yX4_refreshPlay, Cond.selects RX4 yX4_refreshPlay yX4_refreshPlay, Cond.code yX4_refreshPlay cX4_refreshPlay 1 none, Cond.fieldLink RX4 40 "QueueReader" "isPlayFresh" "Z", Cond.methodLink RX4 210 yX2_run, Cond.instanceMethod yX2_run, Cond.selects RX2 yX2_run yX2_run, Cond.initialized RX2, Cond.code yX2_run cX2_run 6 none, Cond.constant RX2 44 (1000000000), Cond.fieldLink RX2 48 "QueueReader$Net" "places" "I", Cond.methodLink RX2 36 yX2_open, Cond.instanceMethod yX2_open, Cond.selects RX2 yX2_open yX2_open, Cond.code yX2_open cX2_open 4 none, Cond.fieldLink RX2 30 "QueueReader$Play" "free" "[I", Cond.fieldLink RX2 74 "QueueReader$Net" "helpers" "[I", Cond.fieldLink RX2 33 "QueueReader$Play" "waiting" "[I", Cond.fieldLink RX2 58 "QueueReader$Net" "asks" "I", Cond.fieldLink RX2 21 "QueueReader$Play" "states" "[I", Cond.fieldLink RX2 24 "QueueReader$Play" "rows" "[I", Cond.fieldLink RX2 27 "QueueReader$Play" "dues" "[I", Cond.fieldLink RX2 65 "QueueReader$Net" "starts" "[I"]
def wsL_counts_r5 : List Cond := [Cond.methodLink RX2 77 yX1_firstRow, Cond.instanceMethod yX1_firstRow, Cond.selects RX1 yX1_firstRow yX1_firstRow, Cond.code yX1_firstRow cX1_firstRow 2 (some .int), Cond.methodLink RX2 40 yX2_nextTick, Cond.instanceMethod yX2_nextTick, Cond.selects RX2 yX2_nextTick yX2_nextTick, Cond.code yX2_nextTick cX2_nextTick 4 (some .int), Cond.methodLink RX2 80 Lib.Math.min.name, Cond.methodLink RX2 45 yX2_advance, Cond.instanceMethod yX2_advance, Cond.selects RX2 yX2_advance yX2_advance, Cond.code yX2_advance cX2_advance 4 none, Cond.methodLink RX2 83 yX2_finish, Cond.instanceMethod yX2_finish, Cond.selects RX2 yX2_finish yX2_finish, Cond.code yX2_finish cX2_finish 6 none, Cond.fieldLink RX2 89 "QueueReader$Net" "stepPlaces" "[I", Cond.fieldLink RX2 92 "QueueReader$Net" "delays" "[I", Cond.methodLink RX2 61 yX1_lastRow, Cond.instanceMethod yX1_lastRow, Cond.selects RX1 yX1_lastRow yX1_lastRow, Cond.code yX1_lastRow cX1_lastRow 2 (some .int), Cond.fieldLink RX1 37 "QueueReader$Net" "lengths" "[I"]
def wsL_counts_r6 : List Cond := [Cond.methodLink RX1 52 yX1_firstRow, Cond.methodLink RX2 86 yX2_arrive, Cond.instanceMethod yX2_arrive, Cond.selects RX2 yX2_arrive yX2_arrive, Cond.code yX2_arrive cX2_arrive 5 none, Cond.fieldLink RX2 9 "QueueReader$Play" "came" "[I", Cond.methodLink RX2 54 yX2_beginAt, Cond.instanceMethod yX2_beginAt, Cond.selects RX2 yX2_beginAt yX2_beginAt, Cond.code yX2_beginAt cX2_beginAt 7 none, Cond.fieldLink RX2 15 "QueueReader$Play" "begun" "[I", Cond.fieldLink RX2 18 "QueueReader$Play" "done" "[I", Cond.fieldLink RX2 99 "QueueReader$Net" "stepWorks" "[I", Cond.methodLink RX2 95 yX2_firstWaiting, Cond.instanceMethod yX2_firstWaiting, Cond.selects RX2 yX2_firstWaiting yX2_firstWaiting, Cond.code yX2_firstWaiting cX2_firstWaiting 10 (some .int), Cond.fieldLink RX2 102 "QueueReader$Net" "rules" "[I", Cond.fieldLink RX2 105 "QueueReader$Net" "kinds" "[I", Cond.static yX4_rank, Cond.code yX4_rank cX4_rank 4 (some .long), Cond.constantLong RX4 230 (1000000000)]
def wsL_counts : List Cond := .codeWith yL_counts cL_counts 8 (some .int) [(0, 15, 18, 21), (0, 15, 22, 13), (0, 15, 26, 40)] :: ((wsL_counts_r1 ++ (wsL_counts_r2 ++ (wsL_counts_r3 ++ (wsL_counts_r4 ++ (wsL_counts_r5 ++ wsL_counts_r6))))) ++ wsX40 ++ wsX10 ++ wsX30 ++ wsX20 ++ (vx_atS RX4 218 "java/lang/IndexOutOfBoundsException" ["java/lang/RuntimeException", "java/lang/Exception"]).filter goodWord ++ (vx_atS RX4 102 "java/lang/IllegalArgumentException" ["java/lang/RuntimeException", "java/lang/Exception"]).filter goodWord ++ (vx_atS RX4 229 "java/util/NoSuchElementException" ["java/lang/RuntimeException", "java/lang/Exception"]).filter goodWord)
def wsL_saved_r1 : List Cond := [Cond.classLink RL 21 "java/lang/IndexOutOfBoundsException", Cond.methodLink RL 54 yX4_saved, Cond.instanceMethod yX4_saved, Cond.selects RX4 yX4_saved yX4_saved, Cond.initialized RX4, Cond.code yX4_saved cX4_saved 2 (some .long), Cond.methodLink RX4 63 yX4_needPlace, Cond.instanceMethod yX4_needPlace, Cond.selects RX4 yX4_needPlace yX4_needPlace, Cond.code yX4_needPlace cX4_needPlace 2 none, Cond.classLink RX4 214 "java/lang/IndexOutOfBoundsException", Cond.initialized "java/lang/IndexOutOfBoundsException", Cond.fieldLink RX4 12 "QueueReader" "net" "LQueueReader$Net;", Cond.fieldLink RX4 48 "QueueReader$Net" "places" "I", Cond.methodLink RX4 114 yX4_refreshPlay, Cond.instanceMethod yX4_refreshPlay, Cond.selects RX4 yX4_refreshPlay yX4_refreshPlay, Cond.code yX4_refreshPlay cX4_refreshPlay 1 none, Cond.fieldLink RX4 40 "QueueReader" "isPlayFresh" "Z", Cond.fieldLink RX4 33 "QueueReader" "play" "LQueueReader$Play;", Cond.methodLink RX4 210 yX2_run, Cond.instanceMethod yX2_run, Cond.selects RX2 yX2_run yX2_run, Cond.initialized RX2]
def wsL_saved_r2 : List Cond := [Cond.code yX2_run cX2_run 6 none, Cond.constant RX2 44 (1000000000), Cond.fieldLink RX2 48 "QueueReader$Net" "places" "I", Cond.methodLink RX2 36 yX2_open, Cond.instanceMethod yX2_open, Cond.selects RX2 yX2_open yX2_open, Cond.code yX2_open cX2_open 4 none, Cond.fieldLink RX2 30 "QueueReader$Play" "free" "[I", Cond.fieldLink RX2 74 "QueueReader$Net" "helpers" "[I", Cond.fieldLink RX2 33 "QueueReader$Play" "waiting" "[I", Cond.fieldLink RX2 58 "QueueReader$Net" "asks" "I", Cond.fieldLink RX2 21 "QueueReader$Play" "states" "[I", Cond.fieldLink RX2 24 "QueueReader$Play" "rows" "[I", Cond.fieldLink RX2 27 "QueueReader$Play" "dues" "[I", Cond.fieldLink RX2 65 "QueueReader$Net" "starts" "[I", Cond.methodLink RX2 77 yX1_firstRow, Cond.instanceMethod yX1_firstRow, Cond.selects RX1 yX1_firstRow yX1_firstRow, Cond.initialized RX1, Cond.code yX1_firstRow cX1_firstRow 2 (some .int), Cond.methodLink RX2 40 yX2_nextTick, Cond.instanceMethod yX2_nextTick, Cond.selects RX2 yX2_nextTick yX2_nextTick, Cond.code yX2_nextTick cX2_nextTick 4 (some .int)]
def wsL_saved_r3 : List Cond := [Cond.methodLink RX2 80 Lib.Math.min.name, Cond.static Lib.Math.min.name, Cond.initialized "java/lang/Math", Cond.code Lib.Math.min.name Lib.Math.min.code 2 (some .int), Cond.methodLink RX2 45 yX2_advance, Cond.instanceMethod yX2_advance, Cond.selects RX2 yX2_advance yX2_advance, Cond.code yX2_advance cX2_advance 4 none, Cond.methodLink RX2 83 yX2_finish, Cond.instanceMethod yX2_finish, Cond.selects RX2 yX2_finish yX2_finish, Cond.code yX2_finish cX2_finish 6 none, Cond.fieldLink RX2 89 "QueueReader$Net" "stepPlaces" "[I", Cond.fieldLink RX2 92 "QueueReader$Net" "delays" "[I", Cond.methodLink RX2 61 yX1_lastRow, Cond.instanceMethod yX1_lastRow, Cond.selects RX1 yX1_lastRow yX1_lastRow, Cond.code yX1_lastRow cX1_lastRow 2 (some .int), Cond.fieldLink RX1 37 "QueueReader$Net" "lengths" "[I", Cond.methodLink RX1 52 yX1_firstRow, Cond.methodLink RX2 86 yX2_arrive, Cond.instanceMethod yX2_arrive, Cond.selects RX2 yX2_arrive yX2_arrive, Cond.code yX2_arrive cX2_arrive 5 none]
def wsL_saved_r4 : List Cond := [Cond.fieldLink RX2 9 "QueueReader$Play" "came" "[I", Cond.methodLink RX2 54 yX2_beginAt, Cond.instanceMethod yX2_beginAt, Cond.selects RX2 yX2_beginAt yX2_beginAt, Cond.code yX2_beginAt cX2_beginAt 7 none, Cond.fieldLink RX2 15 "QueueReader$Play" "begun" "[I", Cond.fieldLink RX2 18 "QueueReader$Play" "done" "[I", Cond.fieldLink RX2 99 "QueueReader$Net" "stepWorks" "[I", Cond.methodLink RX2 95 yX2_firstWaiting, Cond.instanceMethod yX2_firstWaiting, Cond.selects RX2 yX2_firstWaiting yX2_firstWaiting, Cond.code yX2_firstWaiting cX2_firstWaiting 10 (some .int), Cond.fieldLink RX2 102 "QueueReader$Net" "rules" "[I", Cond.fieldLink RX2 105 "QueueReader$Net" "kinds" "[I", Cond.static yX4_rank, Cond.code yX4_rank cX4_rank 4 (some .long), Cond.constantLong RX4 230 (1000000000), Cond.methodLink RX4 163 yX4_gainAt, Cond.instanceMethod yX4_gainAt, Cond.selects RX4 yX4_gainAt yX4_gainAt, Cond.code yX4_gainAt cX4_gainAt 2 (some .long), Cond.fieldLink RX4 37 "QueueReader" "trial" "LQueueReader$Play;", Cond.methodLink RX4 159 yX2_sumOfTimes, Cond.instanceMethod yX2_sumOfTimes]
def wsL_saved_r5 : List Cond := [Cond.selects RX2 yX2_sumOfTimes yX2_sumOfTimes, Cond.code yX2_sumOfTimes cX2_sumOfTimes 5 (some .long)]
def wsL_saved : List Cond := .codeWith yL_saved cL_saved 4 (some .int) [(0, 8, 11, 21)] :: ((wsL_saved_r1 ++ (wsL_saved_r2 ++ (wsL_saved_r3 ++ (wsL_saved_r4 ++ wsL_saved_r5)))) ++ wsX40 ++ wsX10 ++ wsX20 ++ (vx_atS RX4 218 "java/lang/IndexOutOfBoundsException" ["java/lang/RuntimeException", "java/lang/Exception"]).filter goodWord)
def wsL_alone_r1 : List Cond := [Cond.classLink RL 21 "java/lang/IndexOutOfBoundsException", Cond.methodLink RL 58 yX4_alone, Cond.instanceMethod yX4_alone, Cond.selects RX4 yX4_alone yX4_alone, Cond.initialized RX4, Cond.code yX4_alone cX4_alone 4 (some .int), Cond.fieldLink RX4 12 "QueueReader" "net" "LQueueReader$Net;", Cond.fieldLink RX4 80 "QueueReader$Net" "starts" "[I", Cond.fieldLink RX4 174 "QueueReader$Net" "stepWorks" "[I", Cond.fieldLink RX4 177 "QueueReader$Net" "delays" "[I", Cond.fieldLink RX4 180 "QueueReader$Net" "stepPlaces" "[I", Cond.methodLink RX4 87 yX4_needAsk, Cond.instanceMethod yX4_needAsk, Cond.selects RX4 yX4_needAsk yX4_needAsk, Cond.code yX4_needAsk cX4_needAsk 2 none, Cond.classLink RX4 214 "java/lang/IndexOutOfBoundsException", Cond.initialized "java/lang/IndexOutOfBoundsException", Cond.fieldLink RX4 71 "QueueReader$Net" "asks" "I", Cond.methodLink RX4 167 yX1_firstRow, Cond.instanceMethod yX1_firstRow, Cond.selects RX1 yX1_firstRow yX1_firstRow, Cond.initialized RX1, Cond.code yX1_firstRow cX1_firstRow 2 (some .int), Cond.methodLink RX4 171 yX1_lastRow]
def wsL_alone_r2 : List Cond := [Cond.instanceMethod yX1_lastRow, Cond.selects RX1 yX1_lastRow yX1_lastRow, Cond.code yX1_lastRow cX1_lastRow 2 (some .int), Cond.fieldLink RX1 37 "QueueReader$Net" "lengths" "[I", Cond.methodLink RX1 52 yX1_firstRow]
def wsL_alone : List Cond := .codeWith yL_alone cL_alone 4 (some .int) [(0, 9, 12, 21)] :: ((wsL_alone_r1 ++ wsL_alone_r2) ++ wsX40 ++ wsX10 ++ (vx_atS RX4 218 "java/lang/IndexOutOfBoundsException" ["java/lang/RuntimeException", "java/lang/Exception"]).filter goodWord)
def wsL_law0_r1 : List Cond := [Cond.classLink RL 8 RX4, Cond.instantiable RX4 6, Cond.initialized RX4, Cond.classLink RL 62 RX5, Cond.instantiable RX5 19, Cond.initialized RX5, Cond.arrayClass .long, Cond.methodLink RL 61 yX4_init, Cond.instanceMethod yX4_init, Cond.code yX4_init cX4_init 1 none, Cond.methodLink RX4 3 objectInit, Cond.instanceMethod objectInit, Cond.code objectInit ⟨#[0xb1]⟩ 1 none, Cond.classLink RX4 9 RX1, Cond.instantiable RX1 11, Cond.initialized RX1, Cond.fieldLink RX4 12 "QueueReader" "net" "LQueueReader$Net;", Cond.classLink RX4 16 RX3, Cond.instantiable RX3 3, Cond.initialized RX3, Cond.fieldLink RX4 19 "QueueReader" "told" "LQueueReader$Tracks;", Cond.classLink RX4 23 RX0, Cond.instantiable RX0 7, Cond.initialized RX0]
def wsL_law0_r2 : List Cond := [Cond.fieldLink RX4 26 "QueueReader" "fit" "LQueueReader$Fit;", Cond.classLink RX4 30 RX2, Cond.instantiable RX2 8, Cond.initialized RX2, Cond.fieldLink RX4 33 "QueueReader" "play" "LQueueReader$Play;", Cond.fieldLink RX4 37 "QueueReader" "trial" "LQueueReader$Play;", Cond.fieldLink RX4 40 "QueueReader" "isPlayFresh" "Z", Cond.methodLink RX4 11 yX1_init, Cond.instanceMethod yX1_init, Cond.code yX1_init cX1_init 1 none, Cond.methodLink RX1 3 objectInit, Cond.fieldLink RX1 9 "QueueReader$Net" "places" "I", Cond.fieldLink RX1 15 "QueueReader$Net" "asks" "I", Cond.fieldLink RX1 18 "QueueReader$Net" "steps" "I", Cond.arrayClass .int, Cond.fieldLink RX1 21 "QueueReader$Net" "helpers" "[I", Cond.fieldLink RX1 25 "QueueReader$Net" "rules" "[I", Cond.fieldLink RX1 28 "QueueReader$Net" "delays" "[I", Cond.fieldLink RX1 31 "QueueReader$Net" "kinds" "[I", Cond.fieldLink RX1 34 "QueueReader$Net" "starts" "[I", Cond.fieldLink RX1 37 "QueueReader$Net" "lengths" "[I", Cond.fieldLink RX1 40 "QueueReader$Net" "stepPlaces" "[I", Cond.fieldLink RX1 43 "QueueReader$Net" "stepWorks" "[I", Cond.methodLink RX1 46 yJ7_fill_53178]
def wsL_law0_r3 : List Cond := [Cond.static yJ7_fill_53178, Cond.initialized RJ7, Cond.code yJ7_fill_53178 cJ7_fill_53178 4 none, Cond.methodLink RX4 18 yX3_init, Cond.instanceMethod yX3_init, Cond.code yX3_init cX3_init 1 none, Cond.methodLink RX3 3 objectInit, Cond.arrayClass .boolean, Cond.fieldLink RX3 9 "QueueReader$Tracks" "isSeen" "[Z", Cond.fieldLink RX3 15 "QueueReader$Tracks" "begun" "[I", Cond.fieldLink RX3 19 "QueueReader$Tracks" "done" "[I", Cond.methodLink RX4 25 yX0_init, Cond.instanceMethod yX0_init, Cond.code yX0_init cX0_init 1 none, Cond.methodLink RX0 3 objectInit, Cond.fieldLink RX0 9 "QueueReader$Fit" "size" "I", Cond.fieldLink RX0 15 "QueueReader$Fit" "isWhole" "Z", Cond.fieldLink RX0 19 "QueueReader$Fit" "came" "[I", Cond.fieldLink RX0 23 "QueueReader$Fit" "begun" "[I", Cond.fieldLink RX0 26 "QueueReader$Fit" "done" "[I", Cond.fieldLink RX0 29 "QueueReader$Fit" "kinds" "[I", Cond.fieldLink RX0 32 "QueueReader$Fit" "ranks" "[J", Cond.methodLink RX4 32 yX2_init, Cond.instanceMethod yX2_init]
def wsL_law0_r4 : List Cond := [Cond.code yX2_init cX2_init 1 none, Cond.methodLink RX2 3 objectInit, Cond.fieldLink RX2 9 "QueueReader$Play" "came" "[I", Cond.fieldLink RX2 15 "QueueReader$Play" "begun" "[I", Cond.fieldLink RX2 18 "QueueReader$Play" "done" "[I", Cond.fieldLink RX2 21 "QueueReader$Play" "states" "[I", Cond.fieldLink RX2 24 "QueueReader$Play" "rows" "[I", Cond.fieldLink RX2 27 "QueueReader$Play" "dues" "[I", Cond.fieldLink RX2 30 "QueueReader$Play" "free" "[I", Cond.fieldLink RX2 33 "QueueReader$Play" "waiting" "[I", Cond.methodLink RL 64 yX5_init, Cond.instanceMethod yX5_init, Cond.code yX5_init cX5_init 1 none, Cond.methodLink RX5 3 objectInit, Cond.fieldLink RX5 9 "QueueReaderModel" "helpers" "[I", Cond.fieldLink RX5 13 "QueueReaderModel" "rule" "[I", Cond.fieldLink RX5 16 "QueueReaderModel" "delay" "[I", Cond.fieldLink RX5 19 "QueueReaderModel" "kind" "[I", Cond.fieldLink RX5 22 "QueueReaderModel" "start" "[I", Cond.fieldLink RX5 25 "QueueReaderModel" "steps" "[I", Cond.fieldLink RX5 28 "QueueReaderModel" "at" "[I", Cond.fieldLink RX5 31 "QueueReaderModel" "work" "[I", Cond.fieldLink RX5 34 "QueueReaderModel" "isSeen" "[Z", Cond.fieldLink RX5 38 "QueueReaderModel" "seenBegun" "[I"]
def wsL_law0_r5 : List Cond := [Cond.fieldLink RX5 41 "QueueReaderModel" "seenDone" "[I", Cond.fieldLink RX5 44 "QueueReaderModel" "came" "[I", Cond.fieldLink RX5 47 "QueueReaderModel" "begun" "[I", Cond.fieldLink RX5 50 "QueueReaderModel" "done" "[I", Cond.fieldLink RX5 53 "QueueReaderModel" "waits" "[Z", Cond.fieldLink RX5 56 "QueueReaderModel" "pWork" "[I", Cond.methodLink RL 65 yL_place, Cond.static yL_place, Cond.initialized RL, Cond.codeWith yL_place cL_place 6 (some .int) [(0, 12, 15, 13), (0, 12, 19, 15)], Cond.classLink RL 13 "java/lang/IllegalArgumentException", Cond.classLink RL 15 "java/lang/UnsupportedOperationException", Cond.methodLink RL 7 yX4_place, Cond.instanceMethod yX4_place, Cond.selects RX4 yX4_place yX4_place, Cond.code yX4_place cX4_place 5 (some .int), Cond.classLink RX4 52 "java/lang/UnsupportedOperationException", Cond.initialized "java/lang/UnsupportedOperationException", Cond.fieldLink RX4 48 "QueueReader$Net" "places" "I", Cond.methodLink RX4 44 yX4_needPlaceNumbers, Cond.static yX4_needPlaceNumbers, Cond.code yX4_needPlaceNumbers cX4_needPlaceNumbers 3 none, Cond.methodLink RX4 67 yX4_needWithin, Cond.static yX4_needWithin]
def wsL_law0_r6 : List Cond := [Cond.code yX4_needWithin cX4_needWithin 3 none, Cond.classLink RX4 98 "java/lang/IllegalArgumentException", Cond.initialized "java/lang/IllegalArgumentException", Cond.methodLink RX4 59 yX1_setPlace, Cond.instanceMethod yX1_setPlace, Cond.selects RX1 yX1_setPlace yX1_setPlace, Cond.code yX1_setPlace cX1_setPlace 5 none, Cond.methodLink RL 70 yX5_place, Cond.instanceMethod yX5_place, Cond.selects RX5 yX5_place yX5_place, Cond.code yX5_place cX5_place 4 (some .int), Cond.fieldLink RX5 59 "QueueReaderModel" "thrown" "I", Cond.fieldLink RX5 63 "QueueReaderModel" "places" "I", Cond.methodLink RX5 77 yX5_isPlace, Cond.static yX5_isPlace, Cond.code yX5_isPlace cX5_isPlace 3 (some .boolean), Cond.methodLink RX5 66 yX5_in, Cond.static yX5_in, Cond.code yX5_in cX5_in 3 (some .boolean), Cond.methodLink RX5 80 yX5_throwsIf, Cond.instanceMethod yX5_throwsIf, Cond.selects RX5 yX5_throwsIf yX5_throwsIf, Cond.code yX5_throwsIf cX5_throwsIf 3 (some .boolean), Cond.methodLink RL 71 yX5_thrown]
def wsL_law0_r7 : List Cond := [Cond.instanceMethod yX5_thrown, Cond.selects RX5 yX5_thrown yX5_thrown, Cond.code yX5_thrown cX5_thrown 1 (some .int), Cond.methodLink RL 75 yL_change, Cond.static yL_change, Cond.codeWith yL_change cL_change 6 (some .int) [(0, 9, 12, 21), (0, 9, 16, 13)], Cond.classLink RL 21 "java/lang/IndexOutOfBoundsException", Cond.methodLink RL 17 yX4_change, Cond.instanceMethod yX4_change, Cond.selects RX4 yX4_change yX4_change, Cond.code yX4_change cX4_change 5 none, Cond.methodLink RX4 63 yX4_needPlace, Cond.instanceMethod yX4_needPlace, Cond.selects RX4 yX4_needPlace yX4_needPlace, Cond.code yX4_needPlace cX4_needPlace 2 none, Cond.classLink RX4 214 "java/lang/IndexOutOfBoundsException", Cond.initialized "java/lang/IndexOutOfBoundsException", Cond.methodLink RL 78 yX5_change, Cond.instanceMethod yX5_change, Cond.selects RX5 yX5_change yX5_change, Cond.code yX5_change cX5_change 5 none, Cond.methodLink RX5 84 yX5_noPlace, Cond.instanceMethod yX5_noPlace, Cond.selects RX5 yX5_noPlace yX5_noPlace]
def wsL_law0_r8 : List Cond := [Cond.code yX5_noPlace cX5_noPlace 2 (some .boolean), Cond.methodLink RL 79 yL_ask, Cond.static yL_ask, Cond.codeWith yL_ask cL_ask 7 (some .int) [(0, 14, 17, 21), (0, 14, 21, 13), (0, 14, 25, 15)], Cond.methodLink RL 23 yX4_ask, Cond.instanceMethod yX4_ask, Cond.selects RX4 yX4_ask yX4_ask, Cond.code yX4_ask cX4_ask 6 (some .int), Cond.constant RX4 70 (100000), Cond.fieldLink RX4 71 "QueueReader$Net" "asks" "I", Cond.fieldLink RX4 76 "QueueReader$Net" "kinds" "[I", Cond.fieldLink RX4 80 "QueueReader$Net" "starts" "[I", Cond.methodLink RX4 83 yX1_addStep, Cond.instanceMethod yX1_addStep, Cond.selects RX1 yX1_addStep yX1_addStep, Cond.code yX1_addStep cX1_addStep 6 (some .int), Cond.methodLink RX1 52 yX1_firstRow, Cond.instanceMethod yX1_firstRow, Cond.selects RX1 yX1_firstRow yX1_firstRow, Cond.code yX1_firstRow cX1_firstRow 2 (some .int), Cond.methodLink RL 82 yX5_ask, Cond.instanceMethod yX5_ask, Cond.selects RX5 yX5_ask yX5_ask, Cond.code yX5_ask cX5_ask 5 (some .int)]
def wsL_law0_r9 : List Cond := [Cond.constant RX5 87 (100000), Cond.fieldLink RX5 70 "QueueReaderModel" "asks" "I", Cond.methodLink RL 83 yL_step, Cond.static yL_step, Cond.codeWith yL_step cL_step 6 (some .int) [(0, 12, 15, 21), (0, 12, 19, 13)], Cond.methodLink RL 27 yX4_step, Cond.instanceMethod yX4_step, Cond.selects RX4 yX4_step yX4_step, Cond.code yX4_step cX4_step 4 (some .int), Cond.fieldLink RX4 90 "QueueReader$Net" "lengths" "[I", Cond.methodLink RX4 87 yX4_needAsk, Cond.instanceMethod yX4_needAsk, Cond.selects RX4 yX4_needAsk yX4_needAsk, Cond.code yX4_needAsk cX4_needAsk 2 none, Cond.methodLink RL 85 yX5_step, Cond.instanceMethod yX5_step, Cond.selects RX5 yX5_step yX5_step, Cond.code yX5_step cX5_step 4 (some .int), Cond.methodLink RX5 73 yX5_noAsk, Cond.instanceMethod yX5_noAsk, Cond.selects RX5 yX5_noAsk yX5_noAsk, Cond.code yX5_noAsk cX5_noAsk 2 (some .boolean), Cond.methodLink RL 86 yL_seen, Cond.static yL_seen]
def wsL_law0_r10 : List Cond := [Cond.codeWith yL_seen cL_seen 6 (some .int) [(0, 9, 12, 21), (0, 9, 16, 13)], Cond.methodLink RL 30 yX4_seen, Cond.instanceMethod yX4_seen, Cond.selects RX4 yX4_seen yX4_seen, Cond.code yX4_seen cX4_seen 6 none, Cond.constant RX4 97 (10000000), Cond.methodLink RX4 93 yX4_needStep, Cond.instanceMethod yX4_needStep, Cond.selects RX4 yX4_needStep yX4_needStep, Cond.code yX4_needStep cX4_needStep 3 (some .int), Cond.methodLink RX4 167 yX1_firstRow, Cond.methodLink RX4 103 yX3_tell, Cond.instanceMethod yX3_tell, Cond.selects RX3 yX3_tell yX3_tell, Cond.code yX3_tell cX3_tell 4 none, Cond.methodLink RL 88 yX5_seen, Cond.instanceMethod yX5_seen, Cond.selects RX5 yX5_seen yX5_seen, Cond.code yX5_seen cX5_seen 5 none, Cond.constant RX5 92 (10000000), Cond.methodLink RX5 88 yX5_noStep, Cond.instanceMethod yX5_noStep, Cond.selects RX5 yX5_noStep yX5_noStep, Cond.code yX5_noStep cX5_noStep 3 (some .boolean)]
def wsL_law0_r11 : List Cond := [Cond.methodLink RL 89 yL_unsee, Cond.static yL_unsee, Cond.codeWith yL_unsee cL_unsee 5 (some .int) [(0, 17, 20, 21)], Cond.methodLink RL 33 yX4_unsee, Cond.instanceMethod yX4_unsee, Cond.selects RX4 yX4_unsee yX4_unsee, Cond.code yX4_unsee cX4_unsee 5 (some .boolean), Cond.fieldLink RX4 106 "QueueReader$Tracks" "isSeen" "[Z", Cond.methodLink RL 92 yX5_unsee, Cond.instanceMethod yX5_unsee, Cond.selects RX5 yX5_unsee yX5_unsee, Cond.code yX5_unsee cX5_unsee 4 (some .boolean), Cond.methodLink RL 93 yL_played, Cond.static yL_played, Cond.codeWith yL_played cL_played 6 (some .int) [(0, 12, 15, 21), (0, 12, 19, 40)], Cond.classLink RL 40 "java/util/NoSuchElementException", Cond.methodLink RL 37 yX4_played, Cond.instanceMethod yX4_played, Cond.selects RX4 yX4_played yX4_played, Cond.code yX4_played cX4_played 5 (some .int), Cond.fieldLink RX4 117 "QueueReader$Play" "came" "[I", Cond.fieldLink RX4 120 "QueueReader$Play" "begun" "[I", Cond.fieldLink RX4 123 "QueueReader$Play" "done" "[I", Cond.methodLink RX4 110 yX4_needWhat]
def wsL_law0_r12 : List Cond := [Cond.static yX4_needWhat, Cond.code yX4_needWhat cX4_needWhat 2 none, Cond.classLink RX4 225 "java/util/NoSuchElementException", Cond.initialized "java/util/NoSuchElementException", Cond.methodLink RX4 114 yX4_refreshPlay, Cond.instanceMethod yX4_refreshPlay, Cond.selects RX4 yX4_refreshPlay yX4_refreshPlay, Cond.code yX4_refreshPlay cX4_refreshPlay 1 none, Cond.methodLink RX4 210 yX2_run, Cond.instanceMethod yX2_run, Cond.selects RX2 yX2_run yX2_run, Cond.code yX2_run cX2_run 6 none, Cond.constant RX2 44 (1000000000), Cond.fieldLink RX2 48 "QueueReader$Net" "places" "I", Cond.methodLink RX2 36 yX2_open, Cond.instanceMethod yX2_open, Cond.selects RX2 yX2_open yX2_open, Cond.code yX2_open cX2_open 4 none, Cond.fieldLink RX2 74 "QueueReader$Net" "helpers" "[I", Cond.fieldLink RX2 58 "QueueReader$Net" "asks" "I", Cond.fieldLink RX2 65 "QueueReader$Net" "starts" "[I", Cond.methodLink RX2 77 yX1_firstRow, Cond.methodLink RX2 40 yX2_nextTick, Cond.instanceMethod yX2_nextTick]
def wsL_law0_r13 : List Cond := [Cond.selects RX2 yX2_nextTick yX2_nextTick, Cond.code yX2_nextTick cX2_nextTick 4 (some .int), Cond.methodLink RX2 80 Lib.Math.min.name, Cond.static Lib.Math.min.name, Cond.initialized "java/lang/Math", Cond.code Lib.Math.min.name Lib.Math.min.code 2 (some .int), Cond.methodLink RX2 45 yX2_advance, Cond.instanceMethod yX2_advance, Cond.selects RX2 yX2_advance yX2_advance, Cond.code yX2_advance cX2_advance 4 none, Cond.methodLink RX2 83 yX2_finish, Cond.instanceMethod yX2_finish, Cond.selects RX2 yX2_finish yX2_finish, Cond.code yX2_finish cX2_finish 6 none, Cond.fieldLink RX2 89 "QueueReader$Net" "stepPlaces" "[I", Cond.fieldLink RX2 92 "QueueReader$Net" "delays" "[I", Cond.methodLink RX2 61 yX1_lastRow, Cond.instanceMethod yX1_lastRow, Cond.selects RX1 yX1_lastRow yX1_lastRow, Cond.code yX1_lastRow cX1_lastRow 2 (some .int), Cond.methodLink RX2 86 yX2_arrive, Cond.instanceMethod yX2_arrive, Cond.selects RX2 yX2_arrive yX2_arrive, Cond.code yX2_arrive cX2_arrive 5 none]
def wsL_law0_r14 : List Cond := [Cond.methodLink RX2 54 yX2_beginAt, Cond.instanceMethod yX2_beginAt, Cond.selects RX2 yX2_beginAt yX2_beginAt, Cond.code yX2_beginAt cX2_beginAt 7 none, Cond.fieldLink RX2 99 "QueueReader$Net" "stepWorks" "[I", Cond.methodLink RX2 95 yX2_firstWaiting, Cond.instanceMethod yX2_firstWaiting, Cond.selects RX2 yX2_firstWaiting yX2_firstWaiting, Cond.code yX2_firstWaiting cX2_firstWaiting 10 (some .int), Cond.fieldLink RX2 102 "QueueReader$Net" "rules" "[I", Cond.fieldLink RX2 105 "QueueReader$Net" "kinds" "[I", Cond.static yX4_rank, Cond.code yX4_rank cX4_rank 4 (some .long), Cond.constantLong RX4 230 (1000000000), Cond.methodLink RL 95 yX5_played, Cond.instanceMethod yX5_played, Cond.selects RX5 yX5_played yX5_played, Cond.code yX5_played cX5_played 6 (some .int), Cond.methodLink RX5 119 yX5_plays, Cond.instanceMethod yX5_plays, Cond.selects RX5 yX5_plays yX5_plays, Cond.code yX5_plays cX5_plays 5 (some .int), Cond.constant RX5 96 (2000000000), Cond.methodLink RX5 107 Lib.Math.min.name]
def wsL_law0_r15 : List Cond := [Cond.methodLink RX5 112 Lib.Math.max.name, Cond.static Lib.Math.max.name, Cond.code Lib.Math.max.name Lib.Math.max.code 2 (some .int), Cond.methodLink RX5 104 yX5_forgets, Cond.instanceMethod yX5_forgets, Cond.selects RX5 yX5_forgets yX5_forgets, Cond.code yX5_forgets cX5_forgets 2 none, Cond.methodLink RX5 115 yX5_begins, Cond.instanceMethod yX5_begins, Cond.selects RX5 yX5_begins yX5_begins, Cond.code yX5_begins cX5_begins 7 none, Cond.methodLink RX5 97 yX5_busy, Cond.instanceMethod yX5_busy, Cond.selects RX5 yX5_busy yX5_busy, Cond.code yX5_busy cX5_busy 5 (some .int), Cond.methodLink RX5 101 yX5_next, Cond.instanceMethod yX5_next, Cond.selects RX5 yX5_next yX5_next, Cond.code yX5_next cX5_next 5 (some .int), Cond.methodLink RX5 93 yX5_isAhead, Cond.instanceMethod yX5_isAhead, Cond.selects RX5 yX5_isAhead yX5_isAhead, Cond.code yX5_isAhead cX5_isAhead 4 (some .boolean), Cond.methodLink RL 96 yX4_trace]
def wsL_law0_r16 : List Cond := [Cond.instanceMethod yX4_trace, Cond.selects RX4 yX4_trace yX4_trace, Cond.code yX4_trace cX4_trace 2 (some .int), Cond.fieldLink RX4 134 "QueueReader$Net" "steps" "I", Cond.methodLink RX4 126 yX1_rowsEnd, Cond.instanceMethod yX1_rowsEnd, Cond.selects RX1 yX1_rowsEnd yX1_rowsEnd, Cond.code yX1_rowsEnd cX1_rowsEnd 1 (some .int), Cond.methodLink RX4 130 yX1_isStep, Cond.instanceMethod yX1_isStep, Cond.selects RX1 yX1_isStep yX1_isStep, Cond.code yX1_isStep cX1_isStep 2 (some .boolean), Cond.methodLink RL 99 yX5_trace, Cond.instanceMethod yX5_trace, Cond.selects RX5 yX5_trace yX5_trace, Cond.code yX5_trace cX5_trace 3 (some .int), Cond.methodLink RX5 123 yX5_isStep, Cond.instanceMethod yX5_isStep, Cond.selects RX5 yX5_isStep yX5_isStep, Cond.code yX5_isStep cX5_isStep 2 (some .boolean), Cond.methodLink RX5 126 yX5_stepsOfAll, Cond.instanceMethod yX5_stepsOfAll, Cond.selects RX5 yX5_stepsOfAll yX5_stepsOfAll, Cond.code yX5_stepsOfAll cX5_stepsOfAll 3 (some .int)]
def wsL_law0_r17 : List Cond := [Cond.methodLink RL 100 yX4_unlike, Cond.instanceMethod yX4_unlike, Cond.selects RX4 yX4_unlike yX4_unlike, Cond.code yX4_unlike cX4_unlike 3 (some .int), Cond.fieldLink RX4 137 "QueueReader$Tracks" "begun" "[I", Cond.fieldLink RX4 138 "QueueReader$Tracks" "done" "[I", Cond.methodLink RL 103 yX5_unlike, Cond.instanceMethod yX5_unlike, Cond.selects RX5 yX5_unlike yX5_unlike, Cond.code yX5_unlike cX5_unlike 4 (some .int), Cond.methodLink RL 104 yL_found, Cond.static yL_found, Cond.codeWith yL_found cL_found 5 (some .int) [(0, 10, 13, 21)], Cond.methodLink RL 42 yX4_found, Cond.instanceMethod yX4_found, Cond.selects RX4 yX4_found yX4_found, Cond.code yX4_found cX4_found 3 (some .int), Cond.methodLink RX4 139 yX0_gather, Cond.instanceMethod yX0_gather, Cond.selects RX0 yX0_gather yX0_gather, Cond.code yX0_gather cX0_gather 6 none, Cond.fieldLink RX0 42 "QueueReader$Net" "stepPlaces" "[I", Cond.fieldLink RX0 51 "QueueReader$Tracks" "isSeen" "[Z", Cond.fieldLink RX0 55 "QueueReader$Tracks" "begun" "[I"]
def wsL_law0_r18 : List Cond := [Cond.fieldLink RX0 56 "QueueReader$Tracks" "done" "[I", Cond.fieldLink RX0 57 "QueueReader$Net" "kinds" "[I", Cond.methodLink RX0 36 yX1_rowsEnd, Cond.methodLink RX0 45 yX3_cameOf, Cond.instanceMethod yX3_cameOf, Cond.selects RX3 yX3_cameOf yX3_cameOf, Cond.code yX3_cameOf cX3_cameOf 4 (some .int), Cond.fieldLink RX3 28 "QueueReader$Net" "starts" "[I", Cond.fieldLink RX3 31 "QueueReader$Net" "delays" "[I", Cond.fieldLink RX3 34 "QueueReader$Net" "stepPlaces" "[I", Cond.methodLink RX4 143 yX0_firstRule, Cond.instanceMethod yX0_firstRule, Cond.selects RX0 yX0_firstRule yX0_firstRule, Cond.code yX0_firstRule cX0_firstRule 2 (some .int), Cond.methodLink RX0 71 yX0_mostAtOnce, Cond.instanceMethod yX0_mostAtOnce, Cond.selects RX0 yX0_mostAtOnce yX0_mostAtOnce, Cond.code yX0_mostAtOnce cX0_mostAtOnce 3 (some .int), Cond.methodLink RX0 62 Lib.Math.max.name, Cond.methodLink RX0 58 yX0_helpedAt, Cond.instanceMethod yX0_helpedAt, Cond.selects RX0 yX0_helpedAt yX0_helpedAt, Cond.code yX0_helpedAt cX0_helpedAt 4 (some .int), Cond.methodLink RX0 74 yX0_isPossible]
def wsL_law0_r19 : List Cond := [Cond.instanceMethod yX0_isPossible, Cond.selects RX0 yX0_isPossible yX0_isPossible, Cond.code yX0_isPossible cX0_isPossible 3 (some .boolean), Cond.methodLink RX0 81 yX0_isIdleAt, Cond.instanceMethod yX0_isIdleAt, Cond.selects RX0 yX0_isIdleAt yX0_isIdleAt, Cond.code yX0_isIdleAt cX0_isIdleAt 4 (some .boolean), Cond.methodLink RX0 85 yX0_isLeftAt, Cond.instanceMethod yX0_isLeftAt, Cond.selects RX0 yX0_isLeftAt yX0_isLeftAt, Cond.code yX0_isLeftAt cX0_isLeftAt 3 (some .boolean), Cond.methodLink RX0 78 yX0_isOrderedBy, Cond.instanceMethod yX0_isOrderedBy, Cond.selects RX0 yX0_isOrderedBy yX0_isOrderedBy, Cond.code yX0_isOrderedBy cX0_isOrderedBy 4 (some .boolean), Cond.methodLink RX0 92 yX0_isAhead, Cond.instanceMethod yX0_isAhead, Cond.selects RX0 yX0_isAhead yX0_isAhead, Cond.code yX0_isAhead cX0_isAhead 3 (some .boolean), Cond.methodLink RX4 146 yX0_leastHelpers, Cond.instanceMethod yX0_leastHelpers, Cond.selects RX0 yX0_leastHelpers yX0_leastHelpers, Cond.code yX0_leastHelpers cX0_leastHelpers 1 (some .int), Cond.methodLink RX0 68 yX0_firstRule]
def wsL_law0_r20 : List Cond := [Cond.methodLink RL 107 yX5_found, Cond.instanceMethod yX5_found, Cond.selects RX5 yX5_found yX5_found, Cond.code yX5_found cX5_found 5 (some .int), Cond.methodLink RX5 133 yX5_isWhole, Cond.instanceMethod yX5_isWhole, Cond.selects RX5 yX5_isWhole yX5_isWhole, Cond.code yX5_isWhole cX5_isWhole 5 (some .boolean), Cond.methodLink RX5 130 yX5_seenCame, Cond.instanceMethod yX5_seenCame, Cond.selects RX5 yX5_seenCame yX5_seenCame, Cond.code yX5_seenCame cX5_seenCame 2 (some .int), Cond.methodLink RX5 136 yX5_agrees, Cond.instanceMethod yX5_agrees, Cond.selects RX5 yX5_agrees yX5_agrees, Cond.code yX5_agrees cX5_agrees 7 (some .boolean), Cond.methodLink RL 108 yL_overlap, Cond.static yL_overlap, Cond.codeWith yL_overlap cL_overlap 4 (some .int) [(0, 9, 12, 21)], Cond.methodLink RL 46 yX4_overlap, Cond.instanceMethod yX4_overlap, Cond.selects RX4 yX4_overlap yX4_overlap, Cond.code yX4_overlap cX4_overlap 2 (some .int), Cond.methodLink RX4 149 yX0_mostAtOnce]
def wsL_law0_r21 : List Cond := [Cond.methodLink RL 111 yX5_overlap, Cond.instanceMethod yX5_overlap, Cond.selects RX5 yX5_overlap yX5_overlap, Cond.code yX5_overlap cX5_overlap 6 (some .int), Cond.methodLink RL 112 yL_counts, Cond.static yL_counts, Cond.codeWith yL_counts cL_counts 8 (some .int) [(0, 15, 18, 21), (0, 15, 22, 13), (0, 15, 26, 40)], Cond.methodLink RL 50 yX4_counts, Cond.instanceMethod yX4_counts, Cond.selects RX4 yX4_counts yX4_counts, Cond.code yX4_counts cX4_counts 6 (some .long), Cond.methodLink RX4 152 yX4_countsByTracks, Cond.instanceMethod yX4_countsByTracks, Cond.selects RX4 yX4_countsByTracks yX4_countsByTracks, Cond.code yX4_countsByTracks cX4_countsByTracks 9 (some .long), Cond.fieldLink RX4 180 "QueueReader$Net" "stepPlaces" "[I", Cond.methodLink RX4 194 yX3_cameOf, Cond.methodLink RX4 190 yX4_share, Cond.static yX4_share, Cond.code yX4_share cX4_share 6 (some .int), Cond.methodLink RX4 198 yX4_ticksShared, Cond.static yX4_ticksShared, Cond.code yX4_ticksShared cX4_ticksShared 4 (some .int), Cond.methodLink RX4 202 Lib.Math.min.name]
def wsL_law0_r22 : List Cond := [Cond.methodLink RX4 207 Lib.Math.max.name, Cond.methodLink RX4 156 yX4_countsByPlay, Cond.instanceMethod yX4_countsByPlay, Cond.selects RX4 yX4_countsByPlay yX4_countsByPlay, Cond.code yX4_countsByPlay cX4_countsByPlay 8 (some .long), Cond.methodLink RL 115 yX5_counts, Cond.instanceMethod yX5_counts, Cond.selects RX5 yX5_counts yX5_counts, Cond.code yX5_counts cX5_counts 12 (some .long), Cond.methodLink RX5 142 yX5_common, Cond.static yX5_common, Cond.code yX5_common cX5_common 4 (some .long), Cond.methodLink RX5 139 Lib.MathLoose.max_long.x, Cond.static Lib.MathLoose.max_long.x, Cond.code Lib.MathLoose.max_long.x Lib.MathLoose.max_long.code 4 (some .long), Cond.methodLink RL 116 yX4_total, Cond.instanceMethod yX4_total, Cond.selects RX4 yX4_total yX4_total, Cond.code yX4_total cX4_total 1 (some .long), Cond.methodLink RX4 159 yX2_sumOfTimes, Cond.instanceMethod yX2_sumOfTimes, Cond.selects RX2 yX2_sumOfTimes yX2_sumOfTimes, Cond.code yX2_sumOfTimes cX2_sumOfTimes 5 (some .long), Cond.methodLink RL 120 yX5_total]
def wsL_law0_r23 : List Cond := [Cond.instanceMethod yX5_total, Cond.selects RX5 yX5_total yX5_total, Cond.code yX5_total cX5_total 1 (some .long), Cond.methodLink RX5 146 yX5_totalWith, Cond.instanceMethod yX5_totalWith, Cond.selects RX5 yX5_totalWith yX5_totalWith, Cond.code yX5_totalWith cX5_totalWith 6 (some .long), Cond.methodLink RL 121 yL_saved, Cond.static yL_saved, Cond.codeWith yL_saved cL_saved 4 (some .int) [(0, 8, 11, 21)], Cond.methodLink RL 54 yX4_saved, Cond.instanceMethod yX4_saved, Cond.selects RX4 yX4_saved yX4_saved, Cond.code yX4_saved cX4_saved 2 (some .long), Cond.methodLink RX4 163 yX4_gainAt, Cond.instanceMethod yX4_gainAt, Cond.selects RX4 yX4_gainAt yX4_gainAt, Cond.code yX4_gainAt cX4_gainAt 2 (some .long), Cond.methodLink RL 123 yX5_saved, Cond.instanceMethod yX5_saved, Cond.selects RX5 yX5_saved yX5_saved, Cond.code yX5_saved cX5_saved 2 (some .long), Cond.methodLink RL 124 yX4_narrow, Cond.instanceMethod yX4_narrow]
def wsL_law0_r24 : List Cond := [Cond.selects RX4 yX4_narrow yX4_narrow, Cond.code yX4_narrow cX4_narrow 7 (some .int), Cond.methodLink RL 127 yX5_narrow, Cond.instanceMethod yX5_narrow, Cond.selects RX5 yX5_narrow yX5_narrow, Cond.code yX5_narrow cX5_narrow 7 (some .int), Cond.methodLink RL 128 yL_alone, Cond.static yL_alone, Cond.codeWith yL_alone cL_alone 4 (some .int) [(0, 9, 12, 21)], Cond.methodLink RL 58 yX4_alone, Cond.instanceMethod yX4_alone, Cond.selects RX4 yX4_alone yX4_alone, Cond.code yX4_alone cX4_alone 4 (some .int), Cond.fieldLink RX4 174 "QueueReader$Net" "stepWorks" "[I", Cond.fieldLink RX4 177 "QueueReader$Net" "delays" "[I", Cond.methodLink RX4 171 yX1_lastRow, Cond.methodLink RL 130 yX5_alone, Cond.instanceMethod yX5_alone, Cond.selects RX5 yX5_alone yX5_alone, Cond.code yX5_alone cX5_alone 4 (some .int), Cond.methodLink RL 131 yX4_count, Cond.instanceMethod yX4_count, Cond.selects RX4 yX4_count yX4_count, Cond.code yX4_count cX4_count 2 (some .int)]
def wsL_law0_r25 : List Cond := [Cond.methodLink RX4 183 yX3_size, Cond.instanceMethod yX3_size, Cond.selects RX3 yX3_size yX3_size, Cond.code yX3_size cX3_size 4 (some .int), Cond.methodLink RX3 22 yX1_rowsEnd, Cond.methodLink RX4 187 yX2_end, Cond.instanceMethod yX2_end, Cond.selects RX2 yX2_end yX2_end, Cond.code yX2_end cX2_end 4 (some .int), Cond.methodLink RX2 68 Lib.Math.max.name, Cond.methodLink RL 134 yX5_count, Cond.instanceMethod yX5_count, Cond.selects RX5 yX5_count yX5_count, Cond.code yX5_count cX5_count 4 (some .int)]
def wsL_law0 : List Cond := (wsL_law0_r1 ++ (wsL_law0_r2 ++ (wsL_law0_r3 ++ (wsL_law0_r4 ++ (wsL_law0_r5 ++ (wsL_law0_r6 ++ (wsL_law0_r7 ++ (wsL_law0_r8 ++ (wsL_law0_r9 ++ (wsL_law0_r10 ++ (wsL_law0_r11 ++ (wsL_law0_r12 ++ (wsL_law0_r13 ++ (wsL_law0_r14 ++ (wsL_law0_r15 ++ (wsL_law0_r16 ++ (wsL_law0_r17 ++ (wsL_law0_r18 ++ (wsL_law0_r19 ++ (wsL_law0_r20 ++ (wsL_law0_r21 ++ (wsL_law0_r22 ++ (wsL_law0_r23 ++ (wsL_law0_r24 ++ wsL_law0_r25)))))))))))))))))))))))) ++ wsX40 ++ wsX50 ++ wsX10 ++ wsX30 ++ wsX00 ++ wsX20 ++ ([] : List Cond)
def wsL_law : List Cond := wsL_law0 ++ (vx_atS RX4 56 "java/lang/UnsupportedOperationException" ["java/lang/RuntimeException", "java/lang/Exception"]).filter goodWord ++ (vx_atS RX4 102 "java/lang/IllegalArgumentException" ["java/lang/RuntimeException", "java/lang/Exception"]).filter goodWord ++ (vx_atS RX4 218 "java/lang/IndexOutOfBoundsException" ["java/lang/RuntimeException", "java/lang/Exception"]).filter goodWord ++ (vx_atS RX4 229 "java/util/NoSuchElementException" ["java/lang/RuntimeException", "java/lang/Exception"]).filter goodWord
abbrev vwCl : List vw_C := [(RX0, TX0, 7), (RX1, TX1, 11), (RX2, TX2, 8), (RX3, TX3, 3), (RX4, TX4, 6), (RX5, TX5, 19)]
end
section
set_option maxRecDepth 20000 in
theorem ggX0_gather_X1_rowsEnd : GoodIn wsX0_gather wsX1_rowsEnd := goodIn_r _ [16, 17, 35, 36, 37, 38, 39, 40, 41, 42, 43, 44, 45] (by decide +kernel) (by decide +kernel)
set_option maxRecDepth 20000 in
theorem gX0_gather_X1_rowsEnd : GoodIn wsX0_gather (wsV RX0 36 RX1 yX1_rowsEnd wsX1_rowsEnd) := goodIn_app (goodIn_of _ (by decide +kernel)) ggX0_gather_X1_rowsEnd
set_option maxRecDepth 20000 in
theorem ggX0_gather_X3_cameOf : GoodIn wsX0_gather wsX3_cameOf := goodIn_r _ [22, 23, 24, 25, 26, 27, 46, 47, 48, 35, 36, 37, 38, 39, 40, 41, 42, 43, 44, 45] (by decide +kernel) (by decide +kernel)
set_option maxRecDepth 20000 in
theorem gX0_gather_X3_cameOf : GoodIn wsX0_gather (wsV RX0 45 RX3 yX3_cameOf wsX3_cameOf) := goodIn_app (goodIn_of _ (by decide +kernel)) ggX0_gather_X3_cameOf
set_option maxRecDepth 20000 in
theorem ggX0_mostAtOnce_X0_helpedAt : GoodIn wsX0_mostAtOnce wsX0_helpedAt := goodIn_r _ [11, 1, 2, 12, 13, 14, 15, 16, 17, 18, 19] (by decide +kernel) (by decide +kernel)
set_option maxRecDepth 20000 in
theorem gX0_mostAtOnce_X0_helpedAt : GoodIn wsX0_mostAtOnce (wsV RX0 58 RX0 yX0_helpedAt wsX0_helpedAt) := goodIn_app (goodIn_of _ (by decide +kernel)) ggX0_mostAtOnce_X0_helpedAt
set_option maxRecDepth 20000 in
theorem ggX0_leastHelpers_X0_firstRule : GoodIn wsX0_leastHelpers wsX0_firstRule := goodIn_r _ [5, 6, 7, 8, 9, 10, 4, 11, 12, 13, 14, 15, 16, 17, 18, 19, 20, 21, 22, 23, 24, 25, 26, 27, 28, 29, 30, 31, 32, 33, 34, 35, 36, 37, 38, 39, 40, 41, 42, 43, 44, 45, 46, 47, 48, 49, 50, 51, 52, 53, 54, 55] (by decide +kernel) (by decide +kernel)
set_option maxRecDepth 20000 in
theorem gX0_leastHelpers_X0_firstRule : GoodIn wsX0_leastHelpers (wsV RX0 68 RX0 yX0_firstRule wsX0_firstRule) := goodIn_app (goodIn_of _ (by decide +kernel)) ggX0_leastHelpers_X0_firstRule
set_option maxRecDepth 20000 in
theorem ggX0_leastHelpers_X0_mostAtOnce : GoodIn wsX0_leastHelpers wsX0_mostAtOnce := goodIn_r _ [11, 7, 12, 13, 14, 15, 16, 17, 18, 19, 4, 20, 21, 49, 50, 51, 52, 53, 54, 55] (by decide +kernel) (by decide +kernel)
set_option maxRecDepth 20000 in
theorem gX0_leastHelpers_X0_mostAtOnce : GoodIn wsX0_leastHelpers (wsV RX0 71 RX0 yX0_mostAtOnce wsX0_mostAtOnce) := goodIn_app (goodIn_of _ (by decide +kernel)) ggX0_leastHelpers_X0_mostAtOnce
set_option maxRecDepth 20000 in
theorem ggX0_firstRule_X0_mostAtOnce : GoodIn wsX0_firstRule wsX0_mostAtOnce := goodIn_r _ [7, 2, 8, 9, 10, 11, 12, 13, 14, 15, 6, 16, 17, 45, 46, 47, 48, 49, 50, 51] (by decide +kernel) (by decide +kernel)
set_option maxRecDepth 20000 in
theorem gX0_firstRule_X0_mostAtOnce : GoodIn wsX0_firstRule (wsV RX0 71 RX0 yX0_mostAtOnce wsX0_mostAtOnce) := goodIn_app (goodIn_of _ (by decide +kernel)) ggX0_firstRule_X0_mostAtOnce
set_option maxRecDepth 20000 in
theorem ggX0_firstRule_X0_isPossible : GoodIn wsX0_firstRule wsX0_isPossible := goodIn_r _ [21, 2, 8, 22, 17, 23, 24, 25, 6, 26, 27, 28, 29, 30, 13, 14, 15, 16, 45, 46, 47, 48, 49, 50, 51] (by decide +kernel) (by decide +kernel)
set_option maxRecDepth 20000 in
theorem gX0_firstRule_X0_isPossible : GoodIn wsX0_firstRule (wsV RX0 74 RX0 yX0_isPossible wsX0_isPossible) := goodIn_app (goodIn_of _ (by decide +kernel)) ggX0_firstRule_X0_isPossible
set_option maxRecDepth 20000 in
theorem ggX0_firstRule_X0_isOrderedBy : GoodIn wsX0_firstRule wsX0_isOrderedBy := goodIn_r _ [34, 2, 35, 22, 17, 8, 36, 37, 38, 39, 40, 27, 28, 29, 6, 30, 41, 42, 43, 44, 45, 46, 47, 48, 49, 50, 51] (by decide +kernel) (by decide +kernel)
set_option maxRecDepth 20000 in
theorem gX0_firstRule_X0_isOrderedBy : GoodIn wsX0_firstRule (wsV RX0 78 RX0 yX0_isOrderedBy wsX0_isOrderedBy) := goodIn_app (goodIn_of _ (by decide +kernel)) ggX0_firstRule_X0_isOrderedBy
set_option maxRecDepth 20000 in
theorem ggX0_isPossible_X0_isIdleAt : GoodIn wsX0_isPossible wsX0_isIdleAt := goodIn_r _ [9, 1, 10, 11, 12, 8, 13, 3, 2, 14, 15, 16, 17, 4, 18, 19, 20, 21, 22, 23, 24] (by decide +kernel) (by decide +kernel)
set_option maxRecDepth 20000 in
theorem gX0_isPossible_X0_isIdleAt : GoodIn wsX0_isPossible (wsV RX0 81 RX0 yX0_isIdleAt wsX0_isIdleAt) := goodIn_app (goodIn_of _ (by decide +kernel)) ggX0_isPossible_X0_isIdleAt
set_option maxRecDepth 20000 in
theorem ggX0_isIdleAt_X0_isLeftAt : GoodIn wsX0_isIdleAt wsX0_isLeftAt := goodIn_r _ [6, 7, 8, 14, 15, 16, 17, 18, 19, 20] (by decide +kernel) (by decide +kernel)
set_option maxRecDepth 20000 in
theorem gX0_isIdleAt_X0_isLeftAt : GoodIn wsX0_isIdleAt (wsV RX0 85 RX0 yX0_isLeftAt wsX0_isLeftAt) := goodIn_app (goodIn_of _ (by decide +kernel)) ggX0_isIdleAt_X0_isLeftAt
set_option maxRecDepth 20000 in
theorem ggX0_isIdleAt_X0_helpedAt : GoodIn wsX0_isIdleAt wsX0_helpedAt := goodIn_r _ [12, 1, 8, 13, 14, 15, 16, 17, 18, 19, 20] (by decide +kernel) (by decide +kernel)
set_option maxRecDepth 20000 in
theorem gX0_isIdleAt_X0_helpedAt : GoodIn wsX0_isIdleAt (wsV RX0 58 RX0 yX0_helpedAt wsX0_helpedAt) := goodIn_app (goodIn_of _ (by decide +kernel)) ggX0_isIdleAt_X0_helpedAt
set_option maxRecDepth 20000 in
theorem ggX0_isOrderedBy_X4_rank : GoodIn wsX0_isOrderedBy wsX4_rank := goodIn_r _ [9, 10] (by decide +kernel) (by decide +kernel)
set_option maxRecDepth 20000 in
theorem gX0_isOrderedBy_X4_rank_n88 : GoodIn wsX0_isOrderedBy (wsX4_rank) := ggX0_isOrderedBy_X4_rank
set_option maxRecDepth 20000 in
theorem ggX0_isOrderedBy_X0_isLeftAt : GoodIn wsX0_isOrderedBy wsX0_isLeftAt := goodIn_r _ [15, 3, 5, 20, 21, 22, 23, 24, 25, 26] (by decide +kernel) (by decide +kernel)
set_option maxRecDepth 20000 in
theorem gX0_isOrderedBy_X0_isLeftAt : GoodIn wsX0_isOrderedBy (wsV RX0 85 RX0 yX0_isLeftAt wsX0_isLeftAt) := goodIn_app (goodIn_of _ (by decide +kernel)) ggX0_isOrderedBy_X0_isLeftAt
set_option maxRecDepth 20000 in
theorem ggX0_isOrderedBy_X0_isAhead : GoodIn wsX0_isOrderedBy wsX0_isAhead := goodIn_r _ [19, 2, 20, 21, 22, 23, 24, 25, 26] (by decide +kernel) (by decide +kernel)
set_option maxRecDepth 20000 in
theorem gX0_isOrderedBy_X0_isAhead : GoodIn wsX0_isOrderedBy (wsV RX0 92 RX0 yX0_isAhead wsX0_isAhead) := goodIn_app (goodIn_of _ (by decide +kernel)) ggX0_isOrderedBy_X0_isAhead
set_option maxRecDepth 20000 in
theorem ggX1_init_J7_fill_53178 : GoodIn wsX1_init wsJ7_fill_53178 := goodIn_r _ [19] (by decide +kernel) (by decide +kernel)
set_option maxRecDepth 20000 in
theorem gX1_init_J7_fill_53178 : GoodIn wsX1_init (va_wsS RX1 46 yJ7_fill_53178 wsJ7_fill_53178) := goodIn_app (goodIn_of _ (by decide +kernel)) ggX1_init_J7_fill_53178
set_option maxRecDepth 20000 in
theorem ggX1_addStep_X1_firstRow : GoodIn wsX1_addStep wsX1_firstRow := goodIn_r _ [9] (by decide +kernel) (by decide +kernel)
set_option maxRecDepth 20000 in
theorem gX1_addStep_X1_firstRow : GoodIn wsX1_addStep (wsV RX1 52 RX1 yX1_firstRow wsX1_firstRow) := goodIn_app (goodIn_of _ (by decide +kernel)) ggX1_addStep_X1_firstRow
set_option maxRecDepth 20000 in
theorem ggX1_lastRow_X1_firstRow : GoodIn wsX1_lastRow wsX1_firstRow := goodIn_r _ [6] (by decide +kernel) (by decide +kernel)
set_option maxRecDepth 20000 in
theorem gX1_lastRow_X1_firstRow : GoodIn wsX1_lastRow (wsV RX1 52 RX1 yX1_firstRow wsX1_firstRow) := goodIn_app (goodIn_of _ (by decide +kernel)) ggX1_lastRow_X1_firstRow
set_option maxRecDepth 20000 in
theorem ggX2_run_X2_open : GoodIn wsX2_run wsX2_open := goodIn_r _ [7, 2, 8, 9, 10, 11, 12, 13, 14, 15, 16, 17, 18, 19, 20, 67, 68, 69, 70, 71, 72, 73, 74, 75, 76, 77, 78, 79, 80, 81, 82, 83, 84, 85] (by decide +kernel) (by decide +kernel)
set_option maxRecDepth 20000 in
theorem gX2_run_X2_open : GoodIn wsX2_run (wsV RX2 36 RX2 yX2_open wsX2_open) := goodIn_app (goodIn_of _ (by decide +kernel)) ggX2_run_X2_open
set_option maxRecDepth 20000 in
theorem ggX2_run_X2_nextTick : GoodIn wsX2_run wsX2_nextTick := goodIn_r _ [24, 1, 11, 14, 25, 26, 27, 28, 67, 68, 69, 70, 71, 72, 73, 74, 75, 76, 77, 78, 79, 80, 81, 82, 83, 84, 85] (by decide +kernel) (by decide +kernel)
set_option maxRecDepth 20000 in
theorem gX2_run_X2_nextTick : GoodIn wsX2_run (wsV RX2 40 RX2 yX2_nextTick wsX2_nextTick) := goodIn_app (goodIn_of _ (by decide +kernel)) ggX2_run_X2_nextTick
set_option maxRecDepth 20000 in
theorem ggX2_run_X2_advance : GoodIn wsX2_run wsX2_advance := goodIn_r _ [32, 11, 14, 12, 33, 34, 35, 6, 36, 13, 37, 8, 1, 38, 39, 40, 41, 19, 42, 43, 44, 17, 18, 20, 45, 46, 47, 48, 49, 10, 67, 68, 69, 70, 71, 72, 73, 74, 75, 76, 77, 78, 79, 80, 81, 82, 83, 84, 85] (by decide +kernel) (by decide +kernel)
set_option maxRecDepth 20000 in
theorem gX2_run_X2_advance : GoodIn wsX2_run (wsV RX2 45 RX2 yX2_advance wsX2_advance) := goodIn_app (goodIn_of _ (by decide +kernel)) ggX2_run_X2_advance
set_option maxRecDepth 20000 in
theorem ggX2_run_X2_beginAt : GoodIn wsX2_run wsX2_beginAt := goodIn_r _ [53, 8, 10, 13, 54, 55, 56, 12, 14, 57, 58, 59, 6, 60, 11, 37, 61, 49, 62, 63, 64, 65, 66, 78, 79, 80, 81, 82, 83, 84, 85, 67, 68, 69, 70, 71, 72, 73, 74, 75, 76, 77] (by decide +kernel) (by decide +kernel)
set_option maxRecDepth 20000 in
theorem gX2_run_X2_beginAt : GoodIn wsX2_run (wsV RX2 54 RX2 yX2_beginAt wsX2_beginAt) := goodIn_app (goodIn_of _ (by decide +kernel)) ggX2_run_X2_beginAt
set_option maxRecDepth 20000 in
theorem ggX2_sumOfTimes_X1_lastRow : GoodIn wsX2_sumOfTimes wsX1_lastRow := goodIn_r _ [8, 9, 10, 11, 12, 7, 13, 14, 15, 16, 17, 18, 19, 20, 21, 22, 23, 24] (by decide +kernel) (by decide +kernel)
set_option maxRecDepth 20000 in
theorem gX2_sumOfTimes_X1_lastRow : GoodIn wsX2_sumOfTimes (wsV RX2 61 RX1 yX1_lastRow wsX1_lastRow) := goodIn_app (goodIn_of _ (by decide +kernel)) ggX2_sumOfTimes_X1_lastRow
set_option maxRecDepth 20000 in
theorem ggX2_end_X1_lastRow : GoodIn wsX2_end wsX1_lastRow := goodIn_r _ [11, 12, 13, 14, 15, 10, 16, 17, 18, 19, 20, 21, 22, 23, 24, 25, 26, 27] (by decide +kernel) (by decide +kernel)
set_option maxRecDepth 20000 in
theorem gX2_end_X1_lastRow : GoodIn wsX2_end (wsV RX2 61 RX1 yX1_lastRow wsX1_lastRow) := goodIn_app (goodIn_of _ (by decide +kernel)) ggX2_end_X1_lastRow
set_option maxRecDepth 20000 in
theorem ggX2_open_X1_firstRow : GoodIn wsX2_open wsX1_firstRow := goodIn_r _ [14] (by decide +kernel) (by decide +kernel)
set_option maxRecDepth 20000 in
theorem gX2_open_X1_firstRow : GoodIn wsX2_open (wsV RX2 77 RX1 yX1_firstRow wsX1_firstRow) := goodIn_app (goodIn_of _ (by decide +kernel)) ggX2_open_X1_firstRow
set_option maxRecDepth 20000 in
theorem ggX2_advance_X2_finish : GoodIn wsX2_advance wsX2_finish := goodIn_r _ [8, 9, 10, 11, 3, 2, 12, 13, 14, 15, 16, 17, 18, 19, 20, 21, 22, 23, 24, 25, 26, 7, 27, 28, 29, 41, 42, 43, 44, 45, 46, 47, 48, 30, 31, 32, 33, 34, 35, 36, 37, 38, 39, 40] (by decide +kernel) (by decide +kernel)
set_option maxRecDepth 20000 in
theorem gX2_advance_X2_finish : GoodIn wsX2_advance (wsV RX2 83 RX2 yX2_finish wsX2_finish) := goodIn_app (goodIn_of _ (by decide +kernel)) ggX2_advance_X2_finish
set_option maxRecDepth 20000 in
theorem ggX2_advance_X2_arrive : GoodIn wsX2_advance wsX2_arrive := goodIn_r _ [27, 9, 28, 3, 2, 12, 29, 10, 41, 42, 43, 44, 45, 46, 47, 48, 30, 31, 32, 33, 34, 35, 36, 37, 38, 39, 40] (by decide +kernel) (by decide +kernel)
set_option maxRecDepth 20000 in
theorem gX2_advance_X2_arrive : GoodIn wsX2_advance (wsV RX2 86 RX2 yX2_arrive wsX2_arrive) := goodIn_app (goodIn_of _ (by decide +kernel)) ggX2_advance_X2_arrive
set_option maxRecDepth 20000 in
theorem ggX2_finish_X1_lastRow : GoodIn wsX2_finish wsX1_lastRow := goodIn_r _ [12, 13, 14, 15, 16, 11, 17, 33, 34, 35, 36, 37, 38, 39, 40, 41, 42, 43] (by decide +kernel) (by decide +kernel)
set_option maxRecDepth 20000 in
theorem gX2_finish_X1_lastRow : GoodIn wsX2_finish (wsV RX2 61 RX1 yX1_lastRow wsX1_lastRow) := goodIn_app (goodIn_of _ (by decide +kernel)) ggX2_finish_X1_lastRow
set_option maxRecDepth 20000 in
theorem ggX2_finish_X2_arrive : GoodIn wsX2_finish wsX2_arrive := goodIn_r _ [22, 1, 23, 4, 5, 6, 24, 2, 25, 26, 27, 28, 29, 30, 31, 32, 33, 34, 35, 36, 37, 38, 39, 40, 41, 42, 43] (by decide +kernel) (by decide +kernel)
set_option maxRecDepth 20000 in
theorem gX2_finish_X2_arrive : GoodIn wsX2_finish (wsV RX2 86 RX2 yX2_arrive wsX2_arrive) := goodIn_app (goodIn_of _ (by decide +kernel)) ggX2_finish_X2_arrive
set_option maxRecDepth 20000 in
theorem ggX2_beginAt_X2_firstWaiting : GoodIn wsX2_beginAt wsX2_firstWaiting := goodIn_r _ [13, 14, 3, 7, 15, 16, 17, 6, 18, 19, 20, 21, 22, 31, 32, 33, 34, 35, 36, 37, 38, 39, 40, 41, 23, 24, 25, 26, 27, 28, 29, 30] (by decide +kernel) (by decide +kernel)
set_option maxRecDepth 20000 in
theorem gX2_beginAt_X2_firstWaiting : GoodIn wsX2_beginAt (wsV RX2 95 RX2 yX2_firstWaiting wsX2_firstWaiting) := goodIn_app (goodIn_of _ (by decide +kernel)) ggX2_beginAt_X2_firstWaiting
set_option maxRecDepth 20000 in
theorem ggX2_firstWaiting_X4_rank : GoodIn wsX2_firstWaiting wsX4_rank := goodIn_r _ [11, 12] (by decide +kernel) (by decide +kernel)
set_option maxRecDepth 20000 in
theorem gX2_firstWaiting_X4_rank_n108 : GoodIn wsX2_firstWaiting (wsX4_rank) := ggX2_firstWaiting_X4_rank
set_option maxRecDepth 20000 in
theorem ggX3_size_X1_rowsEnd : GoodIn wsX3_size wsX1_rowsEnd := goodIn_r _ [6, 7, 11, 12, 13, 14, 15, 16, 17, 18, 19, 20, 21] (by decide +kernel) (by decide +kernel)
set_option maxRecDepth 20000 in
theorem gX3_size_X1_rowsEnd : GoodIn wsX3_size (wsV RX3 22 RX1 yX1_rowsEnd wsX1_rowsEnd) := goodIn_app (goodIn_of _ (by decide +kernel)) ggX3_size_X1_rowsEnd
end
section
set_option maxRecDepth 20000 in
theorem ggX4_init_X1_init : GoodIn wsX4_init wsX1_init := goodIn_r _ [24, 25, 2, 3, 26, 27, 28, 29, 30, 31, 32, 33, 34, 35, 36, 37, 38, 39, 40, 41, 74, 75, 76, 77, 78, 79, 80, 81, 82, 83, 84] (by decide +kernel) (by decide +kernel)
set_option maxRecDepth 20000 in
theorem gX4_init_X1_init : GoodIn wsX4_init (wsX1_init) := ggX4_init_X1_init
set_option maxRecDepth 20000 in
theorem ggX4_init_X3_init : GoodIn wsX4_init wsX3_init := goodIn_r _ [44, 45, 2, 3, 46, 47, 29, 48, 49, 91, 92, 93] (by decide +kernel) (by decide +kernel)
set_option maxRecDepth 20000 in
theorem gX4_init_X3_init : GoodIn wsX4_init (wsX3_init) := ggX4_init_X3_init
set_option maxRecDepth 20000 in
theorem ggX4_init_X0_init : GoodIn wsX4_init wsX0_init := goodIn_r _ [52, 53, 2, 3, 54, 55, 29, 56, 57, 58, 59, 60, 61, 94, 95, 96, 97, 98, 99, 100] (by decide +kernel) (by decide +kernel)
set_option maxRecDepth 20000 in
theorem gX4_init_X0_init : GoodIn wsX4_init (wsX0_init) := ggX4_init_X0_init
set_option maxRecDepth 20000 in
theorem ggX4_init_X2_init : GoodIn wsX4_init wsX2_init := goodIn_r _ [64, 65, 2, 3, 29, 66, 67, 68, 69, 70, 71, 72, 73, 101, 102, 103, 104, 105, 106, 107, 108] (by decide +kernel) (by decide +kernel)
set_option maxRecDepth 20000 in
theorem gX4_init_X2_init : GoodIn wsX4_init (wsX2_init) := ggX4_init_X2_init
set_option maxRecDepth 20000 in
theorem ggX4_place_X4_needPlaceNumbers : GoodIn wsX4_place wsX4_needPlaceNumbers := goodIn_ca (goodIn_r _ [9, 10, 11, 8, 12, 13, 14] (by decide +kernel) (by decide +kernel)) (goodIn_sub (fun _ h => List.mem_cons_of_mem _ (List.mem_append_right _ h)) (by decide +kernel))
set_option maxRecDepth 20000 in
theorem gX4_place_X4_needPlaceNumbers : GoodIn wsX4_place (va_wsS RX4 44 yX4_needPlaceNumbers wsX4_needPlaceNumbers) := goodIn_app (goodIn_of _ (by decide +kernel)) ggX4_place_X4_needPlaceNumbers
set_option maxRecDepth 20000 in
theorem ggX4_place_X1_setPlace : GoodIn wsX4_place wsX1_setPlace := goodIn_r _ [19, 20, 21, 22, 29, 30, 31, 32, 33, 34, 35, 36, 37, 38, 39] (by decide +kernel) (by decide +kernel)
set_option maxRecDepth 20000 in
theorem gX4_place_X1_setPlace : GoodIn wsX4_place (wsV RX4 59 RX1 yX1_setPlace wsX1_setPlace) := goodIn_app (goodIn_of _ (by decide +kernel)) ggX4_place_X1_setPlace
set_option maxRecDepth 20000 in
theorem ggX4_change_X4_needPlace : GoodIn wsX4_change wsX4_needPlace := goodIn_ca (goodIn_r _ [7, 8, 9, 1, 10, 27, 28, 29, 30, 31, 32, 33, 34, 35, 36, 37, 38, 39, 40, 41, 42, 43] (by decide +kernel) (by decide +kernel)) (goodIn_sub (fun _ h => List.mem_cons_of_mem _ (List.mem_append_left _ (List.mem_append_right _ h))) (by decide +kernel))
set_option maxRecDepth 20000 in
theorem gX4_change_X4_needPlace : GoodIn wsX4_change (wsV RX4 63 RX4 yX4_needPlace wsX4_needPlace) := goodIn_app (goodIn_of _ (by decide +kernel)) ggX4_change_X4_needPlace
set_option maxRecDepth 20000 in
theorem ggX4_change_X4_needPlaceNumbers : GoodIn wsX4_change wsX4_needPlaceNumbers := goodIn_ca (goodIn_r _ [13, 14, 15, 6, 16, 17, 18] (by decide +kernel) (by decide +kernel)) (goodIn_sub (fun _ h => List.mem_cons_of_mem _ (List.mem_append_right _ h)) (by decide +kernel))
set_option maxRecDepth 20000 in
theorem gX4_change_X4_needPlaceNumbers : GoodIn wsX4_change (va_wsS RX4 44 yX4_needPlaceNumbers wsX4_needPlaceNumbers) := goodIn_app (goodIn_of _ (by decide +kernel)) ggX4_change_X4_needPlaceNumbers
set_option maxRecDepth 20000 in
theorem ggX4_change_X1_setPlace : GoodIn wsX4_change wsX1_setPlace := goodIn_r _ [23, 24, 25, 26, 33, 34, 35, 36, 37, 38, 39, 40, 41, 42, 43] (by decide +kernel) (by decide +kernel)
set_option maxRecDepth 20000 in
theorem gX4_change_X1_setPlace : GoodIn wsX4_change (wsV RX4 59 RX1 yX1_setPlace wsX1_setPlace) := goodIn_app (goodIn_of _ (by decide +kernel)) ggX4_change_X1_setPlace
set_option maxRecDepth 20000 in
theorem ggX4_ask_X4_needPlace : GoodIn wsX4_ask wsX4_needPlace := goodIn_ca (goodIn_r _ [13, 14, 15, 4, 16, 35, 36, 37, 38, 39, 40, 41, 42, 43, 44, 45, 46, 47, 48, 49, 50, 51] (by decide +kernel) (by decide +kernel)) (goodIn_sub (fun _ h => List.mem_cons_of_mem _ (List.mem_append_left _ (List.mem_append_right _ h))) (by decide +kernel))
set_option maxRecDepth 20000 in
theorem gX4_ask_X4_needPlace : GoodIn wsX4_ask (wsV RX4 63 RX4 yX4_needPlace wsX4_needPlace) := goodIn_app (goodIn_of _ (by decide +kernel)) ggX4_ask_X4_needPlace
set_option maxRecDepth 20000 in
theorem ggX4_ask_X4_needWithin : GoodIn wsX4_ask wsX4_needWithin := goodIn_ca (goodIn_r _ [19, 20, 21] (by decide +kernel) (by decide +kernel)) (goodIn_sub (fun _ h => List.mem_cons_of_mem _ (List.mem_append_right _ h)) (by decide +kernel))
set_option maxRecDepth 20000 in
theorem gX4_ask_X4_needWithin : GoodIn wsX4_ask (va_wsS RX4 67 yX4_needWithin wsX4_needWithin) := goodIn_app (goodIn_of _ (by decide +kernel)) ggX4_ask_X4_needWithin
set_option maxRecDepth 20000 in
theorem ggX4_ask_X1_addStep : GoodIn wsX4_ask wsX1_addStep := goodIn_r _ [26, 27, 28, 29, 30, 31, 32, 33, 25, 34, 41, 42, 43, 44, 45, 46, 47, 48, 49, 50, 51] (by decide +kernel) (by decide +kernel)
set_option maxRecDepth 20000 in
theorem gX4_ask_X1_addStep : GoodIn wsX4_ask (wsV RX4 83 RX1 yX1_addStep wsX1_addStep) := goodIn_app (goodIn_of _ (by decide +kernel)) ggX4_ask_X1_addStep
set_option maxRecDepth 20000 in
theorem ggX4_step_X4_needAsk : GoodIn wsX4_step wsX4_needAsk := goodIn_ca (goodIn_r _ [8, 9, 10, 1, 11, 35, 36, 37, 38, 39, 40, 41, 42, 43, 44, 45, 46, 47, 48, 49, 50, 51] (by decide +kernel) (by decide +kernel)) (goodIn_sub (fun _ h => List.mem_cons_of_mem _ (List.mem_append_left _ (List.mem_append_right _ h))) (by decide +kernel))
set_option maxRecDepth 20000 in
theorem gX4_step_X4_needAsk : GoodIn wsX4_step (wsV RX4 87 RX4 yX4_needAsk wsX4_needAsk) := goodIn_app (goodIn_of _ (by decide +kernel)) ggX4_step_X4_needAsk
set_option maxRecDepth 20000 in
theorem ggX4_step_X4_needPlace : GoodIn wsX4_step wsX4_needPlace := goodIn_ca (goodIn_r _ [15, 9, 10, 1, 16, 35, 36, 37, 38, 39, 40, 41, 42, 43, 44, 45, 46, 47, 48, 49, 50, 51] (by decide +kernel) (by decide +kernel)) (goodIn_sub (fun _ h => List.mem_cons_of_mem _ (List.mem_append_left _ (List.mem_append_right _ h))) (by decide +kernel))
set_option maxRecDepth 20000 in
theorem gX4_step_X4_needPlace : GoodIn wsX4_step (wsV RX4 63 RX4 yX4_needPlace wsX4_needPlace) := goodIn_app (goodIn_of _ (by decide +kernel)) ggX4_step_X4_needPlace
set_option maxRecDepth 20000 in
theorem ggX4_step_X4_needWithin : GoodIn wsX4_step wsX4_needWithin := goodIn_ca (goodIn_r _ [19, 20, 21] (by decide +kernel) (by decide +kernel)) (goodIn_sub (fun _ h => List.mem_cons_of_mem _ (List.mem_append_right _ h)) (by decide +kernel))
set_option maxRecDepth 20000 in
theorem gX4_step_X4_needWithin : GoodIn wsX4_step (va_wsS RX4 67 yX4_needWithin wsX4_needWithin) := goodIn_app (goodIn_of _ (by decide +kernel)) ggX4_step_X4_needWithin
set_option maxRecDepth 20000 in
theorem ggX4_step_X1_addStep : GoodIn wsX4_step wsX1_addStep := goodIn_r _ [26, 27, 28, 29, 30, 31, 32, 33, 25, 34, 41, 42, 43, 44, 45, 46, 47, 48, 49, 50, 51] (by decide +kernel) (by decide +kernel)
set_option maxRecDepth 20000 in
theorem gX4_step_X1_addStep : GoodIn wsX4_step (wsV RX4 83 RX1 yX1_addStep wsX1_addStep) := goodIn_app (goodIn_of _ (by decide +kernel)) ggX4_step_X1_addStep
set_option maxRecDepth 20000 in
theorem ggX4_seen_X4_needStep : GoodIn wsX4_seen wsX4_needStep := goodIn_ca (goodIn_r _ [9, 10, 11, 12, 13, 14, 15, 16, 8, 17, 18, 19, 20, 21, 22, 23, 35, 36, 37, 38, 39, 40, 41, 42, 43, 44, 45, 46, 47, 48, 49, 50, 51] (by decide +kernel) (by decide +kernel)) (goodIn_sub (fun _ h => List.mem_cons_of_mem _ (List.mem_append_right _ h)) (by decide +kernel))
set_option maxRecDepth 20000 in
theorem gX4_seen_X4_needStep : GoodIn wsX4_seen (wsV RX4 93 RX4 yX4_needStep wsX4_needStep) := goodIn_app (goodIn_of _ (by decide +kernel)) ggX4_seen_X4_needStep
set_option maxRecDepth 20000 in
theorem ggX4_seen_X4_needWithin : GoodIn wsX4_seen wsX4_needWithin := goodIn_ca (goodIn_r _ [26, 1, 2] (by decide +kernel) (by decide +kernel)) (goodIn_sub (fun _ h => List.mem_cons_of_mem _ (List.mem_append_left _ (List.mem_append_right _ h))) (by decide +kernel))
set_option maxRecDepth 20000 in
theorem gX4_seen_X4_needWithin : GoodIn wsX4_seen (va_wsS RX4 67 yX4_needWithin wsX4_needWithin) := goodIn_app (goodIn_of _ (by decide +kernel)) ggX4_seen_X4_needWithin
set_option maxRecDepth 20000 in
theorem ggX4_seen_X3_tell : GoodIn wsX4_seen wsX3_tell := goodIn_r _ [31, 32, 33, 34, 52, 53, 54] (by decide +kernel) (by decide +kernel)
set_option maxRecDepth 20000 in
theorem gX4_seen_X3_tell : GoodIn wsX4_seen (wsV RX4 103 RX3 yX3_tell wsX3_tell) := goodIn_app (goodIn_of _ (by decide +kernel)) ggX4_seen_X3_tell
set_option maxRecDepth 20000 in
theorem ggX4_unsee_X4_needStep : GoodIn wsX4_unsee wsX4_needStep := goodIn_ca (goodIn_r _ [7, 8, 9, 10, 11, 12, 13, 14, 6, 15, 16, 17, 18, 19, 20, 21, 22, 23, 24, 25, 26, 27, 31, 32, 33, 34, 35, 36, 37, 38, 39, 40, 41] (by decide +kernel) (by decide +kernel)) (goodIn_sub (fun _ h => List.mem_cons_of_mem _ (List.mem_append_right _ h)) (by decide +kernel))
set_option maxRecDepth 20000 in
theorem gX4_unsee_X4_needStep : GoodIn wsX4_unsee (wsV RX4 93 RX4 yX4_needStep wsX4_needStep) := goodIn_app (goodIn_of _ (by decide +kernel)) ggX4_unsee_X4_needStep
set_option maxRecDepth 20000 in
theorem ggX4_played_X4_needStep : GoodIn wsX4_played wsX4_needStep := goodIn_ca (goodIn_r _ [9, 10, 11, 12, 13, 14, 15, 16, 8, 17, 18, 19, 20, 21, 22, 23, 99, 100, 101, 102, 103, 104, 113, 114, 115, 116, 117, 118, 119, 120, 121, 122, 123] (by decide +kernel) (by decide +kernel)) (goodIn_sub (fun _ h => List.mem_cons_of_mem _ (List.mem_append_left _ (List.mem_append_right _ h))) (by decide +kernel))
set_option maxRecDepth 20000 in
theorem gX4_played_X4_needStep : GoodIn wsX4_played (wsV RX4 93 RX4 yX4_needStep wsX4_needStep) := goodIn_app (goodIn_of _ (by decide +kernel)) ggX4_played_X4_needStep
set_option maxRecDepth 20000 in
theorem ggX4_played_X4_needWhat : GoodIn wsX4_played wsX4_needWhat := goodIn_ca (goodIn_r _ [26, 27, 28] (by decide +kernel) (by decide +kernel)) (goodIn_sub (fun _ h => List.mem_cons_of_mem _ (List.mem_append_right _ h)) (by decide +kernel))
set_option maxRecDepth 20000 in
theorem gX4_played_X4_needWhat : GoodIn wsX4_played (va_wsS RX4 110 yX4_needWhat wsX4_needWhat) := goodIn_app (goodIn_of _ (by decide +kernel)) ggX4_played_X4_needWhat
set_option maxRecDepth 20000 in
theorem ggX4_played_X4_refreshPlay : GoodIn wsX4_played wsX4_refreshPlay := goodIn_r _ [32, 33, 1, 12, 34, 35, 36, 37, 38, 39, 40, 41, 42, 43, 44, 45, 46, 47, 48, 49, 50, 51, 52, 53, 20, 21, 22, 23, 54, 55, 56, 57, 58, 59, 60, 61, 62, 63, 64, 65, 66, 67, 68, 69, 70, 71, 72, 73, 74, 75, 76, 77, 78, 79, 80, 81, 82, 83, 84, 85, 86, 87, 88, 89, 90, 91, 92, 93, 94, 95, 96, 8, 97, 98, 99, 100, 101, 102, 103, 104, 113, 114, 115, 116, 117, 118, 119, 120, 121, 122, 123, 105, 106, 107, 108, 109, 110, 111, 112] (by decide +kernel) (by decide +kernel)
set_option maxRecDepth 20000 in
theorem gX4_played_X4_refreshPlay : GoodIn wsX4_played (wsV RX4 114 RX4 yX4_refreshPlay wsX4_refreshPlay) := goodIn_app (goodIn_of _ (by decide +kernel)) ggX4_played_X4_refreshPlay
set_option maxRecDepth 20000 in
theorem ggX4_trace_X4_refreshPlay : GoodIn wsX4_trace wsX4_refreshPlay := goodIn_r _ [11, 12, 3, 1, 13, 14, 15, 16, 17, 18, 19, 20, 21, 22, 23, 24, 25, 26, 27, 28, 29, 30, 31, 32, 33, 34, 35, 36, 37, 38, 39, 40, 41, 42, 43, 44, 45, 46, 47, 48, 49, 50, 51, 52, 53, 54, 55, 56, 57, 58, 59, 60, 61, 62, 63, 64, 65, 66, 67, 68, 69, 70, 71, 72, 73, 74, 75, 76, 77, 78, 79, 10, 80, 81, 100, 101, 102, 103, 104, 105, 114, 115, 116, 117, 118, 119, 120, 121, 122, 123, 124, 106, 107, 108, 109, 110, 111, 112, 113] (by decide +kernel) (by decide +kernel)
set_option maxRecDepth 20000 in
theorem gX4_trace_X4_refreshPlay : GoodIn wsX4_trace (wsV RX4 114 RX4 yX4_refreshPlay wsX4_refreshPlay) := goodIn_app (goodIn_of _ (by decide +kernel)) ggX4_trace_X4_refreshPlay
set_option maxRecDepth 20000 in
theorem ggX4_trace_X1_rowsEnd : GoodIn wsX4_trace wsX1_rowsEnd := goodIn_r _ [85, 86, 114, 115, 116, 117, 118, 119, 120, 121, 122, 123, 124] (by decide +kernel) (by decide +kernel)
set_option maxRecDepth 20000 in
theorem gX4_trace_X1_rowsEnd : GoodIn wsX4_trace (wsV RX4 126 RX1 yX1_rowsEnd wsX1_rowsEnd) := goodIn_app (goodIn_of _ (by decide +kernel)) ggX4_trace_X1_rowsEnd
set_option maxRecDepth 20000 in
theorem ggX4_trace_X1_isStep : GoodIn wsX4_trace wsX1_isStep := goodIn_r _ [90, 91, 114, 115, 116, 117, 118, 119, 120, 121, 122, 123, 124] (by decide +kernel) (by decide +kernel)
set_option maxRecDepth 20000 in
theorem gX4_trace_X1_isStep : GoodIn wsX4_trace (wsV RX4 130 RX1 yX1_isStep wsX1_isStep) := goodIn_app (goodIn_of _ (by decide +kernel)) ggX4_trace_X1_isStep
set_option maxRecDepth 20000 in
theorem ggX4_trace_X3_tell : GoodIn wsX4_trace wsX3_tell := goodIn_r _ [96, 97, 98, 99, 125, 126, 127] (by decide +kernel) (by decide +kernel)
set_option maxRecDepth 20000 in
theorem gX4_trace_X3_tell : GoodIn wsX4_trace (wsV RX4 103 RX3 yX3_tell wsX3_tell) := goodIn_app (goodIn_of _ (by decide +kernel)) ggX4_trace_X3_tell
set_option maxRecDepth 20000 in
theorem ggX4_unlike_X4_refreshPlay : GoodIn wsX4_unlike wsX4_refreshPlay := goodIn_r _ [13, 14, 5, 1, 15, 16, 17, 18, 19, 20, 21, 22, 23, 24, 25, 26, 27, 28, 29, 30, 31, 32, 33, 34, 35, 36, 37, 38, 39, 40, 41, 42, 43, 44, 45, 46, 47, 48, 49, 50, 51, 52, 53, 54, 55, 56, 57, 58, 59, 60, 61, 62, 63, 64, 65, 66, 67, 68, 69, 70, 71, 72, 73, 74, 75, 76, 77, 78, 79, 80, 81, 12, 82, 83, 89, 90, 91, 92, 93, 94, 106, 107, 108, 109, 110, 111, 112, 113, 114, 115, 116, 98, 99, 100, 101, 102, 103, 104, 105] (by decide +kernel) (by decide +kernel)
set_option maxRecDepth 20000 in
theorem gX4_unlike_X4_refreshPlay : GoodIn wsX4_unlike (wsV RX4 114 RX4 yX4_refreshPlay wsX4_refreshPlay) := goodIn_app (goodIn_of _ (by decide +kernel)) ggX4_unlike_X4_refreshPlay
set_option maxRecDepth 20000 in
theorem ggX4_unlike_X1_rowsEnd : GoodIn wsX4_unlike wsX1_rowsEnd := goodIn_r _ [87, 88, 106, 107, 108, 109, 110, 111, 112, 113, 114, 115, 116] (by decide +kernel) (by decide +kernel)
set_option maxRecDepth 20000 in
theorem gX4_unlike_X1_rowsEnd : GoodIn wsX4_unlike (wsV RX4 126 RX1 yX1_rowsEnd wsX1_rowsEnd) := goodIn_app (goodIn_of _ (by decide +kernel)) ggX4_unlike_X1_rowsEnd
set_option maxRecDepth 20000 in
theorem ggX4_found_X4_needPlace : GoodIn wsX4_found wsX4_needPlace := goodIn_ca (goodIn_r _ [8, 9, 10, 2, 11, 89, 90, 91, 92, 93, 94, 95, 96, 97, 98, 99, 100, 101, 102, 103, 104, 105] (by decide +kernel) (by decide +kernel)) (goodIn_sub (fun _ h => List.mem_cons_of_mem _ (List.mem_append_right _ h)) (by decide +kernel))
set_option maxRecDepth 20000 in
theorem gX4_found_X4_needPlace : GoodIn wsX4_found (wsV RX4 63 RX4 yX4_needPlace wsX4_needPlace) := goodIn_app (goodIn_of _ (by decide +kernel)) ggX4_found_X4_needPlace
set_option maxRecDepth 20000 in
theorem ggX4_found_X0_gather : GoodIn wsX4_found wsX0_gather := goodIn_r _ [16, 17, 18, 19, 20, 21, 22, 23, 24, 25, 26, 27, 28, 29, 30, 31, 32, 33, 34, 35, 36, 37, 38, 39, 40, 41, 42, 43, 106, 107, 108, 109, 110, 111, 112, 95, 96, 97, 98, 99, 100, 101, 102, 103, 104, 105, 113, 114, 115] (by decide +kernel) (by decide +kernel)
set_option maxRecDepth 20000 in
theorem gX4_found_X0_gather : GoodIn wsX4_found (wsV RX4 139 RX0 yX0_gather wsX0_gather) := goodIn_app (goodIn_of _ (by decide +kernel)) ggX4_found_X0_gather
set_option maxRecDepth 20000 in
theorem ggX4_found_X0_firstRule : GoodIn wsX4_found wsX0_firstRule := goodIn_r _ [47, 18, 17, 48, 49, 50, 15, 51, 22, 52, 53, 54, 55, 56, 57, 58, 59, 24, 60, 61, 62, 63, 21, 64, 65, 66, 67, 68, 69, 70, 71, 72, 73, 74, 75, 76, 26, 77, 7, 78, 79, 80, 81, 82, 83, 106, 107, 108, 109, 110, 111, 112] (by decide +kernel) (by decide +kernel)
set_option maxRecDepth 20000 in
theorem gX4_found_X0_firstRule : GoodIn wsX4_found (wsV RX4 143 RX0 yX0_firstRule wsX0_firstRule) := goodIn_app (goodIn_of _ (by decide +kernel)) ggX4_found_X0_firstRule
set_option maxRecDepth 20000 in
theorem ggX4_found_X0_leastHelpers : GoodIn wsX4_found wsX0_leastHelpers := goodIn_r _ [87, 88, 45, 46, 15, 47, 18, 17, 48, 49, 50, 51, 22, 52, 53, 54, 55, 56, 57, 58, 59, 24, 60, 61, 62, 63, 21, 64, 65, 66, 67, 68, 69, 70, 71, 72, 73, 74, 75, 76, 26, 77, 7, 78, 79, 80, 81, 82, 83, 106, 107, 108, 109, 110, 111, 112] (by decide +kernel) (by decide +kernel)
set_option maxRecDepth 20000 in
theorem gX4_found_X0_leastHelpers : GoodIn wsX4_found (wsV RX4 146 RX0 yX0_leastHelpers wsX0_leastHelpers) := goodIn_app (goodIn_of _ (by decide +kernel)) ggX4_found_X0_leastHelpers
set_option maxRecDepth 20000 in
theorem ggX4_overlap_X4_needPlace : GoodIn wsX4_overlap wsX4_needPlace := goodIn_ca (goodIn_r _ [8, 9, 10, 2, 11, 56, 57, 58, 59, 60, 61, 62, 63, 64, 65, 66, 67, 68, 69, 70, 71, 72] (by decide +kernel) (by decide +kernel)) (goodIn_sub (fun _ h => List.mem_cons_of_mem _ (List.mem_append_right _ h)) (by decide +kernel))
set_option maxRecDepth 20000 in
theorem gX4_overlap_X4_needPlace : GoodIn wsX4_overlap (wsV RX4 63 RX4 yX4_needPlace wsX4_needPlace) := goodIn_app (goodIn_of _ (by decide +kernel)) ggX4_overlap_X4_needPlace
set_option maxRecDepth 20000 in
theorem ggX4_overlap_X0_gather : GoodIn wsX4_overlap wsX0_gather := goodIn_r _ [16, 17, 18, 19, 20, 21, 22, 23, 24, 25, 26, 27, 28, 29, 30, 31, 32, 33, 34, 35, 36, 37, 38, 39, 40, 41, 42, 43, 73, 74, 75, 76, 77, 78, 79, 62, 63, 64, 65, 66, 67, 68, 69, 70, 71, 72, 80, 81, 82] (by decide +kernel) (by decide +kernel)
set_option maxRecDepth 20000 in
theorem gX4_overlap_X0_gather : GoodIn wsX4_overlap (wsV RX4 139 RX0 yX0_gather wsX0_gather) := goodIn_app (goodIn_of _ (by decide +kernel)) ggX4_overlap_X0_gather
set_option maxRecDepth 20000 in
theorem ggX4_overlap_X0_mostAtOnce : GoodIn wsX4_overlap wsX0_mostAtOnce := goodIn_r _ [47, 17, 22, 48, 49, 50, 51, 52, 53, 54, 15, 55, 24, 73, 74, 75, 76, 77, 78, 79] (by decide +kernel) (by decide +kernel)
set_option maxRecDepth 20000 in
theorem gX4_overlap_X0_mostAtOnce : GoodIn wsX4_overlap (wsV RX4 149 RX0 yX0_mostAtOnce wsX0_mostAtOnce) := goodIn_app (goodIn_of _ (by decide +kernel)) ggX4_overlap_X0_mostAtOnce
set_option maxRecDepth 20000 in
theorem ggX4_counts_X4_needPlace : GoodIn wsX4_counts wsX4_needPlace := goodIn_ca (goodIn_r _ [6, 7, 8, 9, 10, 136, 137, 138, 139, 140, 141, 142, 143, 144, 145, 146, 147, 148, 149, 150, 151, 152] (by decide +kernel) (by decide +kernel)) (goodIn_sub (fun _ h => List.mem_cons_of_mem _ (List.mem_append_left _ (List.mem_append_left _ (List.mem_append_right _ h)))) (by decide +kernel))
set_option maxRecDepth 20000 in
theorem gX4_counts_X4_needPlace : GoodIn wsX4_counts (wsV RX4 63 RX4 yX4_needPlace wsX4_needPlace) := goodIn_app (goodIn_of _ (by decide +kernel)) ggX4_counts_X4_needPlace
set_option maxRecDepth 20000 in
theorem ggX4_counts_X4_needWithin : GoodIn wsX4_counts wsX4_needWithin := goodIn_ca (goodIn_r _ [13, 14, 15] (by decide +kernel) (by decide +kernel)) (goodIn_sub (fun _ h => List.mem_cons_of_mem _ (List.mem_append_left _ (List.mem_append_right _ h))) (by decide +kernel))
set_option maxRecDepth 20000 in
theorem gX4_counts_X4_needWithin : GoodIn wsX4_counts (va_wsS RX4 67 yX4_needWithin wsX4_needWithin) := goodIn_app (goodIn_of _ (by decide +kernel)) ggX4_counts_X4_needWithin
set_option maxRecDepth 20000 in
theorem ggX4_counts_X4_needWhat : GoodIn wsX4_counts wsX4_needWhat := goodIn_ca (goodIn_r _ [18, 19, 20] (by decide +kernel) (by decide +kernel)) (goodIn_sub (fun _ h => List.mem_cons_of_mem _ (List.mem_append_right _ h)) (by decide +kernel))
set_option maxRecDepth 20000 in
theorem gX4_counts_X4_needWhat : GoodIn wsX4_counts (va_wsS RX4 110 yX4_needWhat wsX4_needWhat) := goodIn_app (goodIn_of _ (by decide +kernel)) ggX4_counts_X4_needWhat
set_option maxRecDepth 20000 in
theorem ggX4_counts_X4_countsByTracks : GoodIn wsX4_counts wsX4_countsByTracks := goodIn_r _ [24, 9, 25, 26, 27, 28, 29, 30, 31, 32, 33, 34, 35, 36, 37, 38, 39, 40, 41, 42, 43, 44, 45, 46, 5, 47, 48, 49, 50, 51, 52, 53, 54, 55, 56, 57, 136, 137, 138, 139, 140, 141, 142, 143, 144, 145, 146, 147, 148, 149, 150, 151, 152, 153, 154, 155] (by decide +kernel) (by decide +kernel)
set_option maxRecDepth 20000 in
theorem gX4_counts_X4_countsByTracks : GoodIn wsX4_counts (wsV RX4 152 RX4 yX4_countsByTracks wsX4_countsByTracks) := goodIn_app (goodIn_of _ (by decide +kernel)) ggX4_counts_X4_countsByTracks
set_option maxRecDepth 20000 in
theorem ggX4_counts_X4_countsByPlay : GoodIn wsX4_counts wsX4_countsByPlay := goodIn_r _ [61, 9, 25, 62, 63, 64, 65, 66, 67, 68, 5, 69, 70, 71, 72, 73, 74, 75, 76, 77, 78, 79, 80, 81, 82, 83, 84, 85, 86, 87, 88, 89, 90, 91, 92, 32, 93, 94, 95, 96, 97, 98, 52, 53, 54, 99, 100, 101, 102, 103, 104, 105, 106, 107, 108, 109, 110, 111, 112, 113, 114, 115, 116, 117, 118, 119, 120, 121, 122, 123, 124, 125, 126, 127, 128, 129, 130, 131, 132, 133, 134, 135, 29, 30, 31, 33, 34, 45, 46, 47, 48, 49, 50, 51, 55, 56, 57, 136, 137, 138, 139, 140, 141, 142, 143, 144, 145, 146, 147, 148, 149, 150, 151, 152, 156, 157, 158, 159, 160, 161, 162, 163] (by decide +kernel) (by decide +kernel)
set_option maxRecDepth 20000 in
theorem gX4_counts_X4_countsByPlay : GoodIn wsX4_counts (wsV RX4 156 RX4 yX4_countsByPlay wsX4_countsByPlay) := goodIn_app (goodIn_of _ (by decide +kernel)) ggX4_counts_X4_countsByPlay
set_option maxRecDepth 20000 in
theorem ggX4_total_X4_refreshPlay : GoodIn wsX4_total wsX4_refreshPlay := goodIn_r _ [7, 8, 1, 2, 9, 10, 11, 12, 13, 14, 15, 16, 17, 18, 19, 20, 21, 22, 23, 24, 25, 26, 27, 28, 29, 30, 31, 32, 33, 34, 35, 36, 37, 38, 39, 40, 41, 42, 43, 44, 45, 46, 47, 48, 49, 50, 51, 52, 53, 54, 55, 56, 57, 58, 59, 60, 61, 62, 63, 64, 65, 66, 67, 68, 69, 70, 71, 72, 73, 74, 75, 6, 76, 77, 82, 83, 84, 85, 86, 87, 88, 89, 90, 91, 92, 93, 94, 95, 96, 97, 98, 99, 100, 101, 102, 103, 104, 105, 106] (by decide +kernel) (by decide +kernel)
set_option maxRecDepth 20000 in
theorem gX4_total_X4_refreshPlay : GoodIn wsX4_total (wsV RX4 114 RX4 yX4_refreshPlay wsX4_refreshPlay) := goodIn_app (goodIn_of _ (by decide +kernel)) ggX4_total_X4_refreshPlay
set_option maxRecDepth 20000 in
theorem ggX4_total_X2_sumOfTimes : GoodIn wsX4_total wsX2_sumOfTimes := goodIn_r _ [81, 23, 67, 27, 51, 52, 53, 31, 54, 55, 56, 29, 30, 32, 88, 89, 90, 91, 92, 93, 94, 95, 96, 97, 98, 99, 100, 101, 102, 103, 104, 105, 106] (by decide +kernel) (by decide +kernel)
set_option maxRecDepth 20000 in
theorem gX4_total_X2_sumOfTimes : GoodIn wsX4_total (wsV RX4 159 RX2 yX2_sumOfTimes wsX2_sumOfTimes) := goodIn_app (goodIn_of _ (by decide +kernel)) ggX4_total_X2_sumOfTimes
set_option maxRecDepth 20000 in
theorem ggX4_saved_X4_needPlace : GoodIn wsX4_saved wsX4_needPlace := goodIn_ca (goodIn_r _ [5, 6, 7, 8, 9, 94, 95, 96, 97, 98, 99, 100, 101, 102, 103, 104, 105, 106, 107, 108, 109, 110] (by decide +kernel) (by decide +kernel)) (goodIn_sub (fun _ h => List.mem_cons_of_mem _ (List.mem_append_right _ h)) (by decide +kernel))
set_option maxRecDepth 20000 in
theorem gX4_saved_X4_needPlace : GoodIn wsX4_saved (wsV RX4 63 RX4 yX4_needPlace wsX4_needPlace) := goodIn_app (goodIn_of _ (by decide +kernel)) ggX4_saved_X4_needPlace
set_option maxRecDepth 20000 in
theorem ggX4_saved_X4_refreshPlay : GoodIn wsX4_saved wsX4_refreshPlay := goodIn_r _ [13, 14, 15, 8, 16, 17, 18, 19, 20, 21, 22, 23, 24, 25, 26, 27, 28, 29, 30, 31, 32, 33, 34, 35, 36, 37, 38, 39, 40, 41, 42, 43, 44, 45, 46, 47, 48, 49, 50, 51, 52, 53, 54, 55, 56, 57, 58, 59, 60, 61, 62, 63, 64, 65, 66, 67, 68, 69, 70, 71, 72, 73, 74, 75, 76, 77, 78, 79, 80, 81, 82, 4, 83, 84, 94, 95, 96, 97, 98, 99, 100, 101, 102, 103, 104, 105, 106, 107, 108, 109, 110, 111, 112, 113, 114, 115, 116, 117, 118] (by decide +kernel) (by decide +kernel)
set_option maxRecDepth 20000 in
theorem gX4_saved_X4_refreshPlay : GoodIn wsX4_saved (wsV RX4 114 RX4 yX4_refreshPlay wsX4_refreshPlay) := goodIn_app (goodIn_of _ (by decide +kernel)) ggX4_saved_X4_refreshPlay
set_option maxRecDepth 20000 in
theorem ggX4_saved_X4_gainAt : GoodIn wsX4_saved wsX4_gainAt := goodIn_r _ [88, 89, 8, 15, 16, 17, 18, 19, 20, 21, 22, 23, 24, 25, 26, 27, 28, 29, 30, 31, 32, 33, 34, 35, 36, 37, 38, 39, 40, 41, 42, 43, 44, 45, 46, 47, 48, 49, 50, 51, 52, 53, 54, 55, 56, 57, 58, 59, 60, 61, 62, 63, 64, 65, 66, 67, 68, 69, 70, 71, 72, 73, 74, 75, 76, 77, 78, 79, 80, 81, 82, 4, 83, 84, 90, 91, 92, 93, 94, 95, 96, 97, 98, 99, 100, 101, 102, 103, 104, 105, 106, 107, 108, 109, 110, 111, 112, 113, 114, 115, 116, 117, 118] (by decide +kernel) (by decide +kernel)
set_option maxRecDepth 20000 in
theorem gX4_saved_X4_gainAt : GoodIn wsX4_saved (wsV RX4 163 RX4 yX4_gainAt wsX4_gainAt) := goodIn_app (goodIn_of _ (by decide +kernel)) ggX4_saved_X4_gainAt
set_option maxRecDepth 20000 in
theorem ggX4_narrow_X4_refreshPlay : GoodIn wsX4_narrow wsX4_refreshPlay := goodIn_r _ [7, 8, 9, 1, 10, 11, 12, 13, 14, 15, 16, 17, 18, 19, 20, 21, 22, 23, 24, 25, 26, 27, 28, 29, 30, 31, 32, 33, 34, 35, 36, 37, 38, 39, 40, 41, 42, 43, 44, 45, 46, 47, 48, 49, 50, 51, 52, 53, 54, 55, 56, 57, 58, 59, 60, 61, 62, 63, 64, 65, 66, 67, 68, 69, 70, 71, 72, 73, 74, 75, 76, 6, 77, 78, 88, 89, 90, 91, 92, 93, 94, 95, 96, 97, 98, 99, 100, 101, 102, 103, 104, 105, 106, 107, 108, 109, 110, 111, 112] (by decide +kernel) (by decide +kernel)
set_option maxRecDepth 20000 in
theorem gX4_narrow_X4_refreshPlay : GoodIn wsX4_narrow (wsV RX4 114 RX4 yX4_refreshPlay wsX4_refreshPlay) := goodIn_app (goodIn_of _ (by decide +kernel)) ggX4_narrow_X4_refreshPlay
set_option maxRecDepth 20000 in
theorem ggX4_narrow_X4_gainAt : GoodIn wsX4_narrow wsX4_gainAt := goodIn_r _ [82, 83, 1, 9, 10, 11, 12, 13, 14, 15, 16, 17, 18, 19, 20, 21, 22, 23, 24, 25, 26, 27, 28, 29, 30, 31, 32, 33, 34, 35, 36, 37, 38, 39, 40, 41, 42, 43, 44, 45, 46, 47, 48, 49, 50, 51, 52, 53, 54, 55, 56, 57, 58, 59, 60, 61, 62, 63, 64, 65, 66, 67, 68, 69, 70, 71, 72, 73, 74, 75, 76, 6, 77, 78, 84, 85, 86, 87, 88, 89, 90, 91, 92, 93, 94, 95, 96, 97, 98, 99, 100, 101, 102, 103, 104, 105, 106, 107, 108, 109, 110, 111, 112] (by decide +kernel) (by decide +kernel)
set_option maxRecDepth 20000 in
theorem gX4_narrow_X4_gainAt : GoodIn wsX4_narrow (wsV RX4 163 RX4 yX4_gainAt wsX4_gainAt) := goodIn_app (goodIn_of _ (by decide +kernel)) ggX4_narrow_X4_gainAt
set_option maxRecDepth 20000 in
theorem ggX4_alone_X4_needAsk : GoodIn wsX4_alone wsX4_needAsk := goodIn_ca (goodIn_r _ [10, 11, 12, 1, 13, 25, 26, 27, 28, 29, 30, 31, 32, 33, 34, 35, 36, 37, 38, 39, 40, 41] (by decide +kernel) (by decide +kernel)) (goodIn_sub (fun _ h => List.mem_cons_of_mem _ (List.mem_append_right _ h)) (by decide +kernel))
set_option maxRecDepth 20000 in
theorem gX4_alone_X4_needAsk : GoodIn wsX4_alone (wsV RX4 87 RX4 yX4_needAsk wsX4_needAsk) := goodIn_app (goodIn_of _ (by decide +kernel)) ggX4_alone_X4_needAsk
set_option maxRecDepth 20000 in
theorem ggX4_alone_X1_firstRow : GoodIn wsX4_alone wsX1_firstRow := goodIn_r _ [18] (by decide +kernel) (by decide +kernel)
set_option maxRecDepth 20000 in
theorem gX4_alone_X1_firstRow : GoodIn wsX4_alone (wsV RX4 167 RX1 yX1_firstRow wsX1_firstRow) := goodIn_app (goodIn_of _ (by decide +kernel)) ggX4_alone_X1_firstRow
set_option maxRecDepth 20000 in
theorem ggX4_alone_X1_lastRow : GoodIn wsX4_alone wsX1_lastRow := goodIn_r _ [22, 23, 24, 15, 16, 17, 18, 31, 32, 33, 34, 35, 36, 37, 38, 39, 40, 41] (by decide +kernel) (by decide +kernel)
set_option maxRecDepth 20000 in
theorem gX4_alone_X1_lastRow : GoodIn wsX4_alone (wsV RX4 171 RX1 yX1_lastRow wsX1_lastRow) := goodIn_app (goodIn_of _ (by decide +kernel)) ggX4_alone_X1_lastRow
set_option maxRecDepth 20000 in
theorem ggX4_count_X3_size : GoodIn wsX4_count wsX3_size := goodIn_r _ [11, 12, 13, 14, 15, 16, 17, 18, 117, 118, 119, 106, 107, 108, 109, 110, 111, 112, 113, 114, 115, 116] (by decide +kernel) (by decide +kernel)
set_option maxRecDepth 20000 in
theorem gX4_count_X3_size : GoodIn wsX4_count (wsV RX4 183 RX3 yX3_size wsX3_size) := goodIn_app (goodIn_of _ (by decide +kernel)) ggX4_count_X3_size
set_option maxRecDepth 20000 in
theorem ggX4_count_X4_refreshPlay : GoodIn wsX4_count wsX4_refreshPlay := goodIn_r _ [23, 24, 6, 1, 25, 26, 27, 28, 29, 30, 31, 32, 33, 34, 35, 36, 37, 38, 39, 40, 41, 42, 43, 44, 45, 46, 16, 47, 48, 49, 50, 51, 52, 53, 54, 55, 56, 57, 58, 59, 60, 61, 62, 63, 64, 65, 66, 67, 68, 69, 70, 71, 72, 73, 74, 75, 76, 77, 78, 79, 80, 81, 82, 83, 84, 85, 86, 87, 88, 89, 90, 22, 91, 92, 100, 101, 102, 103, 104, 105, 106, 107, 108, 109, 110, 111, 112, 113, 114, 115, 116, 120, 121, 122, 123, 124, 125, 126, 127] (by decide +kernel) (by decide +kernel)
set_option maxRecDepth 20000 in
theorem gX4_count_X4_refreshPlay : GoodIn wsX4_count (wsV RX4 114 RX4 yX4_refreshPlay wsX4_refreshPlay) := goodIn_app (goodIn_of _ (by decide +kernel)) ggX4_count_X4_refreshPlay
set_option maxRecDepth 20000 in
theorem ggX4_count_X2_end : GoodIn wsX4_count wsX2_end := goodIn_r _ [96, 39, 82, 97, 98, 54, 99, 66, 67, 68, 16, 69, 70, 71, 45, 46, 47, 106, 107, 108, 109, 110, 111, 112, 113, 114, 115, 116, 120, 121, 122, 123, 124, 125, 126, 127] (by decide +kernel) (by decide +kernel)
set_option maxRecDepth 20000 in
theorem gX4_count_X2_end : GoodIn wsX4_count (wsV RX4 187 RX2 yX2_end wsX2_end) := goodIn_app (goodIn_of _ (by decide +kernel)) ggX4_count_X2_end
set_option maxRecDepth 20000 in
theorem ggX4_countsByPlay_X4_refreshPlay : GoodIn wsX4_countsByPlay wsX4_refreshPlay := goodIn_r _ [11, 12, 3, 1, 13, 14, 15, 16, 17, 18, 19, 20, 21, 22, 23, 24, 25, 26, 27, 28, 29, 30, 31, 32, 33, 34, 35, 36, 37, 38, 39, 40, 41, 42, 43, 44, 45, 46, 47, 48, 49, 50, 51, 52, 53, 54, 55, 56, 57, 58, 59, 60, 61, 62, 63, 64, 65, 66, 67, 68, 69, 70, 71, 72, 73, 74, 75, 76, 77, 78, 79, 10, 80, 81, 97, 98, 99, 100, 101, 102, 103, 104, 105, 106, 107, 108, 109, 110, 111, 112, 113, 114, 115, 116, 117, 118, 119, 120, 121] (by decide +kernel) (by decide +kernel)
set_option maxRecDepth 20000 in
theorem gX4_countsByPlay_X4_refreshPlay : GoodIn wsX4_countsByPlay (wsV RX4 114 RX4 yX4_refreshPlay wsX4_refreshPlay) := goodIn_app (goodIn_of _ (by decide +kernel)) ggX4_countsByPlay_X4_refreshPlay
set_option maxRecDepth 20000 in
theorem ggX4_countsByPlay_X1_rowsEnd : GoodIn wsX4_countsByPlay wsX1_rowsEnd := goodIn_r _ [85, 86, 103, 104, 105, 106, 107, 108, 109, 110, 111, 112, 113] (by decide +kernel) (by decide +kernel)
set_option maxRecDepth 20000 in
theorem gX4_countsByPlay_X1_rowsEnd : GoodIn wsX4_countsByPlay (wsV RX4 126 RX1 yX1_rowsEnd wsX1_rowsEnd) := goodIn_app (goodIn_of _ (by decide +kernel)) ggX4_countsByPlay_X1_rowsEnd
set_option maxRecDepth 20000 in
theorem ggX4_countsByPlay_X4_share : GoodIn wsX4_countsByPlay wsX4_share := goodIn_r _ [89, 90, 91, 10, 92, 93, 42, 43, 44, 94, 95, 96] (by decide +kernel) (by decide +kernel)
set_option maxRecDepth 20000 in
theorem gX4_countsByPlay_X4_share : GoodIn wsX4_countsByPlay (va_wsS RX4 190 yX4_share wsX4_share) := goodIn_app (goodIn_of _ (by decide +kernel)) ggX4_countsByPlay_X4_share
set_option maxRecDepth 20000 in
theorem ggX4_countsByTracks_X1_rowsEnd : GoodIn wsX4_countsByTracks wsX1_rowsEnd := goodIn_r _ [10, 11, 42, 43, 44, 45, 46, 47, 48, 49, 50, 51, 52] (by decide +kernel) (by decide +kernel)
set_option maxRecDepth 20000 in
theorem gX4_countsByTracks_X1_rowsEnd : GoodIn wsX4_countsByTracks (wsV RX4 126 RX1 yX1_rowsEnd wsX1_rowsEnd) := goodIn_app (goodIn_of _ (by decide +kernel)) ggX4_countsByTracks_X1_rowsEnd
set_option maxRecDepth 20000 in
theorem ggX4_countsByTracks_X3_cameOf : GoodIn wsX4_countsByTracks wsX3_cameOf := goodIn_r _ [16, 17, 18, 19, 20, 21, 53, 54, 55, 42, 43, 44, 45, 46, 47, 48, 49, 50, 51, 52] (by decide +kernel) (by decide +kernel)
set_option maxRecDepth 20000 in
theorem gX4_countsByTracks_X3_cameOf : GoodIn wsX4_countsByTracks (wsV RX4 194 RX3 yX3_cameOf wsX3_cameOf) := goodIn_app (goodIn_of _ (by decide +kernel)) ggX4_countsByTracks_X3_cameOf
set_option maxRecDepth 20000 in
theorem ggX4_countsByTracks_X4_share : GoodIn wsX4_countsByTracks wsX4_share := goodIn_r _ [25, 26, 27, 24, 28, 29, 30, 31, 32, 33, 34, 35] (by decide +kernel) (by decide +kernel)
set_option maxRecDepth 20000 in
theorem gX4_countsByTracks_X4_share : GoodIn wsX4_countsByTracks (va_wsS RX4 190 yX4_share wsX4_share) := goodIn_app (goodIn_of _ (by decide +kernel)) ggX4_countsByTracks_X4_share
set_option maxRecDepth 20000 in
theorem ggX4_share_X4_ticksShared : GoodIn wsX4_share wsX4_ticksShared := goodIn_r _ [4, 5, 6, 7, 8, 9, 10, 11] (by decide +kernel) (by decide +kernel)
set_option maxRecDepth 20000 in
theorem gX4_share_X4_ticksShared : GoodIn wsX4_share (va_wsS RX4 198 yX4_ticksShared wsX4_ticksShared) := goodIn_app (goodIn_of _ (by decide +kernel)) ggX4_share_X4_ticksShared
set_option maxRecDepth 20000 in
theorem ggX4_gainAt_X2_run : GoodIn wsX4_gainAt wsX2_run := goodIn_r _ [8, 9, 10, 11, 12, 13, 7, 14, 15, 16, 17, 18, 19, 20, 21, 22, 23, 24, 25, 26, 27, 28, 29, 30, 31, 32, 33, 34, 35, 36, 37, 38, 39, 40, 41, 42, 43, 44, 45, 46, 47, 48, 49, 50, 51, 52, 53, 54, 55, 56, 57, 58, 59, 60, 61, 62, 63, 64, 65, 66, 67, 68, 69, 70, 71, 72, 73, 84, 85, 86, 87, 88, 89, 90, 91, 92, 93, 94, 95, 96, 97, 98, 99, 100, 101, 102] (by decide +kernel) (by decide +kernel)
set_option maxRecDepth 20000 in
theorem gX4_gainAt_X2_run : GoodIn wsX4_gainAt (wsV RX4 210 RX2 yX2_run wsX2_run) := goodIn_app (goodIn_of _ (by decide +kernel)) ggX4_gainAt_X2_run
set_option maxRecDepth 20000 in
theorem ggX4_gainAt_X2_sumOfTimes : GoodIn wsX4_gainAt wsX2_sumOfTimes := goodIn_r _ [77, 18, 62, 22, 46, 47, 48, 26, 49, 50, 51, 24, 25, 27, 84, 85, 86, 87, 88, 89, 90, 91, 92, 93, 94, 95, 96, 97, 98, 99, 100, 101, 102] (by decide +kernel) (by decide +kernel)
set_option maxRecDepth 20000 in
theorem gX4_gainAt_X2_sumOfTimes : GoodIn wsX4_gainAt (wsV RX4 159 RX2 yX2_sumOfTimes wsX2_sumOfTimes) := goodIn_app (goodIn_of _ (by decide +kernel)) ggX4_gainAt_X2_sumOfTimes
set_option maxRecDepth 20000 in
theorem ggX4_refreshPlay_X2_run : GoodIn wsX4_refreshPlay wsX2_run := goodIn_r _ [8, 9, 10, 11, 12, 13, 7, 14, 15, 16, 17, 18, 19, 20, 21, 22, 23, 24, 25, 26, 27, 28, 29, 30, 31, 32, 33, 34, 35, 36, 37, 38, 39, 40, 41, 42, 43, 44, 45, 46, 47, 48, 49, 50, 51, 52, 53, 54, 55, 56, 57, 58, 59, 60, 61, 62, 63, 64, 65, 66, 67, 68, 69, 70, 71, 72, 73, 80, 81, 82, 83, 84, 85, 86, 87, 88, 89, 90, 91, 92, 93, 94, 95, 96, 97, 98] (by decide +kernel) (by decide +kernel)
set_option maxRecDepth 20000 in
theorem gX4_refreshPlay_X2_run : GoodIn wsX4_refreshPlay (wsV RX4 210 RX2 yX2_run wsX2_run) := goodIn_app (goodIn_of _ (by decide +kernel)) ggX4_refreshPlay_X2_run
set_option maxRecDepth 20000 in
theorem ggX4_needStep_X4_needAsk : GoodIn wsX4_needStep wsX4_needAsk := goodIn_ca (goodIn_r _ [9, 1, 2, 3, 10, 16, 17, 18, 19, 20, 21, 22, 23, 24, 25, 26, 27, 28, 29, 30, 31, 32] (by decide +kernel) (by decide +kernel)) (goodIn_sub (fun _ h => List.mem_cons_of_mem _ (List.mem_append_right _ h)) (by decide +kernel))
set_option maxRecDepth 20000 in
theorem gX4_needStep_X4_needAsk : GoodIn wsX4_needStep (wsV RX4 87 RX4 yX4_needAsk wsX4_needAsk) := goodIn_app (goodIn_of _ (by decide +kernel)) ggX4_needStep_X4_needAsk
set_option maxRecDepth 20000 in
theorem ggX4_needStep_X1_firstRow : GoodIn wsX4_needStep wsX1_firstRow := goodIn_r _ [15] (by decide +kernel) (by decide +kernel)
set_option maxRecDepth 20000 in
theorem gX4_needStep_X1_firstRow : GoodIn wsX4_needStep (wsV RX4 167 RX1 yX1_firstRow wsX1_firstRow) := goodIn_app (goodIn_of _ (by decide +kernel)) ggX4_needStep_X1_firstRow
set_option maxRecDepth 20000 in
theorem ggX4_needPlaceNumbers_X4_needWithin : GoodIn wsX4_needPlaceNumbers wsX4_needWithin := goodIn_ca (goodIn_r _ [4, 5, 6] (by decide +kernel) (by decide +kernel)) (goodIn_sub (fun _ h => List.mem_cons_of_mem _ (List.mem_append_right _ h)) (by decide +kernel))
set_option maxRecDepth 20000 in
theorem gX4_needPlaceNumbers_X4_needWithin : GoodIn wsX4_needPlaceNumbers (va_wsS RX4 67 yX4_needWithin wsX4_needWithin) := goodIn_app (goodIn_of _ (by decide +kernel)) ggX4_needPlaceNumbers_X4_needWithin
end
section
set_option maxRecDepth 20000 in
theorem ggX5_noPlace_X5_in : GoodIn wsX5_noPlace wsX5_in := goodIn_r _ [5] (by decide +kernel) (by decide +kernel)
set_option maxRecDepth 20000 in
theorem gX5_noPlace_X5_in : GoodIn wsX5_noPlace (va_wsS RX5 66 yX5_in wsX5_in) := goodIn_app (goodIn_of _ (by decide +kernel)) ggX5_noPlace_X5_in
set_option maxRecDepth 20000 in
theorem ggX5_noAsk_X5_in : GoodIn wsX5_noAsk wsX5_in := goodIn_r _ [5] (by decide +kernel) (by decide +kernel)
set_option maxRecDepth 20000 in
theorem gX5_noAsk_X5_in : GoodIn wsX5_noAsk (va_wsS RX5 66 yX5_in wsX5_in) := goodIn_app (goodIn_of _ (by decide +kernel)) ggX5_noAsk_X5_in
set_option maxRecDepth 20000 in
theorem ggX5_noStep_X5_noAsk : GoodIn wsX5_noStep wsX5_noAsk := goodIn_r _ [6, 7, 8, 9, 5, 10, 11, 12, 13, 14, 15, 16, 17, 18, 19, 20, 21, 22, 23, 24, 25, 26, 27, 28, 29] (by decide +kernel) (by decide +kernel)
set_option maxRecDepth 20000 in
theorem gX5_noStep_X5_noAsk : GoodIn wsX5_noStep (wsV RX5 73 RX5 yX5_noAsk wsX5_noAsk) := goodIn_app (goodIn_of _ (by decide +kernel)) ggX5_noStep_X5_noAsk
set_option maxRecDepth 20000 in
theorem ggX5_noStep_X5_in : GoodIn wsX5_noStep wsX5_in := goodIn_r _ [10] (by decide +kernel) (by decide +kernel)
set_option maxRecDepth 20000 in
theorem gX5_noStep_X5_in : GoodIn wsX5_noStep (va_wsS RX5 66 yX5_in wsX5_in) := goodIn_app (goodIn_of _ (by decide +kernel)) ggX5_noStep_X5_in
set_option maxRecDepth 20000 in
theorem ggX5_isPlace_X5_in : GoodIn wsX5_isPlace wsX5_in := goodIn_r _ [4] (by decide +kernel) (by decide +kernel)
set_option maxRecDepth 20000 in
theorem gX5_isPlace_X5_in : GoodIn wsX5_isPlace (va_wsS RX5 66 yX5_in wsX5_in) := goodIn_app (goodIn_of _ (by decide +kernel)) ggX5_isPlace_X5_in
set_option maxRecDepth 20000 in
theorem ggX5_place_X5_isPlace : GoodIn wsX5_place wsX5_isPlace := goodIn_r _ [9, 10, 11, 8, 12] (by decide +kernel) (by decide +kernel)
set_option maxRecDepth 20000 in
theorem gX5_place_X5_isPlace : GoodIn wsX5_place (va_wsS RX5 77 yX5_isPlace wsX5_isPlace) := goodIn_app (goodIn_of _ (by decide +kernel)) ggX5_place_X5_isPlace
set_option maxRecDepth 20000 in
theorem ggX5_place_X5_throwsIf : GoodIn wsX5_place wsX5_throwsIf := goodIn_r _ [16, 1, 17, 18, 19, 20, 21, 22, 23, 24, 25, 26, 27, 28, 29, 30, 31, 32, 33, 34, 35] (by decide +kernel) (by decide +kernel)
set_option maxRecDepth 20000 in
theorem gX5_place_X5_throwsIf : GoodIn wsX5_place (wsV RX5 80 RX5 yX5_throwsIf wsX5_throwsIf) := goodIn_app (goodIn_of _ (by decide +kernel)) ggX5_place_X5_throwsIf
set_option maxRecDepth 20000 in
theorem ggX5_change_X5_noPlace : GoodIn wsX5_change wsX5_noPlace := goodIn_r _ [9, 10, 11, 12, 8, 13, 21, 22, 23, 24, 25, 26, 27, 28, 29, 30, 31, 32, 33, 34, 35, 36, 37, 38, 39] (by decide +kernel) (by decide +kernel)
set_option maxRecDepth 20000 in
theorem gX5_change_X5_noPlace : GoodIn wsX5_change (wsV RX5 84 RX5 yX5_noPlace wsX5_noPlace) := goodIn_app (goodIn_of _ (by decide +kernel)) ggX5_change_X5_noPlace
set_option maxRecDepth 20000 in
theorem ggX5_change_X5_throwsIf : GoodIn wsX5_change wsX5_throwsIf := goodIn_r _ [17, 1, 21, 22, 23, 24, 25, 26, 27, 28, 29, 30, 31, 32, 33, 34, 35, 36, 37, 38, 39] (by decide +kernel) (by decide +kernel)
set_option maxRecDepth 20000 in
theorem gX5_change_X5_throwsIf : GoodIn wsX5_change (wsV RX5 80 RX5 yX5_throwsIf wsX5_throwsIf) := goodIn_app (goodIn_of _ (by decide +kernel)) ggX5_change_X5_throwsIf
set_option maxRecDepth 20000 in
theorem ggX5_change_X5_isPlace : GoodIn wsX5_change wsX5_isPlace := goodIn_r _ [20, 11, 12, 8, 13] (by decide +kernel) (by decide +kernel)
set_option maxRecDepth 20000 in
theorem gX5_change_X5_isPlace : GoodIn wsX5_change (va_wsS RX5 77 yX5_isPlace wsX5_isPlace) := goodIn_app (goodIn_of _ (by decide +kernel)) ggX5_change_X5_isPlace
set_option maxRecDepth 20000 in
theorem ggX5_ask_X5_noPlace : GoodIn wsX5_ask wsX5_noPlace := goodIn_r _ [13, 14, 15, 16, 12, 17, 22, 23, 24, 25, 26, 27, 28, 29, 30, 31, 32, 33, 34, 35, 36, 37, 38, 39, 40] (by decide +kernel) (by decide +kernel)
set_option maxRecDepth 20000 in
theorem gX5_ask_X5_noPlace : GoodIn wsX5_ask (wsV RX5 84 RX5 yX5_noPlace wsX5_noPlace) := goodIn_app (goodIn_of _ (by decide +kernel)) ggX5_ask_X5_noPlace
set_option maxRecDepth 20000 in
theorem ggX5_ask_X5_throwsIf : GoodIn wsX5_ask wsX5_throwsIf := goodIn_r _ [21, 1, 22, 23, 24, 25, 26, 27, 28, 29, 30, 31, 32, 33, 34, 35, 36, 37, 38, 39, 40] (by decide +kernel) (by decide +kernel)
set_option maxRecDepth 20000 in
theorem gX5_ask_X5_throwsIf : GoodIn wsX5_ask (wsV RX5 80 RX5 yX5_throwsIf wsX5_throwsIf) := goodIn_app (goodIn_of _ (by decide +kernel)) ggX5_ask_X5_throwsIf
set_option maxRecDepth 20000 in
theorem ggX5_ask_X5_in : GoodIn wsX5_ask wsX5_in := goodIn_r _ [17] (by decide +kernel) (by decide +kernel)
set_option maxRecDepth 20000 in
theorem gX5_ask_X5_in : GoodIn wsX5_ask (va_wsS RX5 66 yX5_in wsX5_in) := goodIn_app (goodIn_of _ (by decide +kernel)) ggX5_ask_X5_in
set_option maxRecDepth 20000 in
theorem ggX5_step_X5_noAsk : GoodIn wsX5_step wsX5_noAsk := goodIn_r _ [9, 10, 11, 12, 8, 13, 23, 24, 25, 26, 27, 28, 29, 30, 31, 32, 33, 34, 35, 36, 37, 38, 39, 40, 41] (by decide +kernel) (by decide +kernel)
set_option maxRecDepth 20000 in
theorem gX5_step_X5_noAsk : GoodIn wsX5_step (wsV RX5 73 RX5 yX5_noAsk wsX5_noAsk) := goodIn_app (goodIn_of _ (by decide +kernel)) ggX5_step_X5_noAsk
set_option maxRecDepth 20000 in
theorem ggX5_step_X5_noPlace : GoodIn wsX5_step wsX5_noPlace := goodIn_r _ [17, 18, 11, 12, 8, 13, 23, 24, 25, 26, 27, 28, 29, 30, 31, 32, 33, 34, 35, 36, 37, 38, 39, 40, 41] (by decide +kernel) (by decide +kernel)
set_option maxRecDepth 20000 in
theorem gX5_step_X5_noPlace : GoodIn wsX5_step (wsV RX5 84 RX5 yX5_noPlace wsX5_noPlace) := goodIn_app (goodIn_of _ (by decide +kernel)) ggX5_step_X5_noPlace
set_option maxRecDepth 20000 in
theorem ggX5_step_X5_throwsIf : GoodIn wsX5_step wsX5_throwsIf := goodIn_r _ [22, 1, 23, 24, 25, 26, 27, 28, 29, 30, 31, 32, 33, 34, 35, 36, 37, 38, 39, 40, 41] (by decide +kernel) (by decide +kernel)
set_option maxRecDepth 20000 in
theorem gX5_step_X5_throwsIf : GoodIn wsX5_step (wsV RX5 80 RX5 yX5_throwsIf wsX5_throwsIf) := goodIn_app (goodIn_of _ (by decide +kernel)) ggX5_step_X5_throwsIf
set_option maxRecDepth 20000 in
theorem ggX5_step_X5_in : GoodIn wsX5_step wsX5_in := goodIn_r _ [13] (by decide +kernel) (by decide +kernel)
set_option maxRecDepth 20000 in
theorem gX5_step_X5_in : GoodIn wsX5_step (va_wsS RX5 66 yX5_in wsX5_in) := goodIn_app (goodIn_of _ (by decide +kernel)) ggX5_step_X5_in
set_option maxRecDepth 20000 in
theorem ggX5_seen_X5_noStep : GoodIn wsX5_seen wsX5_noStep := goodIn_r _ [10, 11, 12, 13, 14, 9, 15, 16, 17, 18, 19, 24, 25, 26, 27, 28, 29, 30, 31, 32, 33, 34, 35, 36, 37, 38, 39, 40, 41, 42] (by decide +kernel) (by decide +kernel)
set_option maxRecDepth 20000 in
theorem gX5_seen_X5_noStep : GoodIn wsX5_seen (wsV RX5 88 RX5 yX5_noStep wsX5_noStep) := goodIn_app (goodIn_of _ (by decide +kernel)) ggX5_seen_X5_noStep
set_option maxRecDepth 20000 in
theorem ggX5_seen_X5_throwsIf : GoodIn wsX5_seen wsX5_throwsIf := goodIn_r _ [23, 1, 24, 25, 26, 27, 28, 29, 30, 31, 32, 33, 34, 35, 36, 37, 38, 39, 40, 41, 42] (by decide +kernel) (by decide +kernel)
set_option maxRecDepth 20000 in
theorem gX5_seen_X5_throwsIf : GoodIn wsX5_seen (wsV RX5 80 RX5 yX5_throwsIf wsX5_throwsIf) := goodIn_app (goodIn_of _ (by decide +kernel)) ggX5_seen_X5_throwsIf
set_option maxRecDepth 20000 in
theorem ggX5_seen_X5_in : GoodIn wsX5_seen wsX5_in := goodIn_r _ [19] (by decide +kernel) (by decide +kernel)
set_option maxRecDepth 20000 in
theorem gX5_seen_X5_in : GoodIn wsX5_seen (va_wsS RX5 66 yX5_in wsX5_in) := goodIn_app (goodIn_of _ (by decide +kernel)) ggX5_seen_X5_in
set_option maxRecDepth 20000 in
theorem ggX5_unsee_X5_noStep : GoodIn wsX5_unsee wsX5_noStep := goodIn_r _ [7, 8, 9, 10, 11, 6, 12, 13, 14, 15, 16, 21, 22, 23, 24, 25, 26, 27, 28, 29, 30, 31, 32, 33, 34, 35, 36, 37, 38, 39] (by decide +kernel) (by decide +kernel)
set_option maxRecDepth 20000 in
theorem gX5_unsee_X5_noStep : GoodIn wsX5_unsee (wsV RX5 88 RX5 yX5_noStep wsX5_noStep) := goodIn_app (goodIn_of _ (by decide +kernel)) ggX5_unsee_X5_noStep
set_option maxRecDepth 20000 in
theorem ggX5_unsee_X5_throwsIf : GoodIn wsX5_unsee wsX5_throwsIf := goodIn_r _ [20, 1, 21, 22, 23, 24, 25, 26, 27, 28, 29, 30, 31, 32, 33, 34, 35, 36, 37, 38, 39] (by decide +kernel) (by decide +kernel)
set_option maxRecDepth 20000 in
theorem gX5_unsee_X5_throwsIf : GoodIn wsX5_unsee (wsV RX5 80 RX5 yX5_throwsIf wsX5_throwsIf) := goodIn_app (goodIn_of _ (by decide +kernel)) ggX5_unsee_X5_throwsIf
set_option maxRecDepth 20000 in
theorem ggX5_next_X5_isAhead : GoodIn wsX5_next wsX5_isAhead := goodIn_r _ [8, 9, 10, 11, 12, 13, 14, 15, 16, 17, 18, 19, 20, 21, 22, 23, 24, 25, 26, 27, 28, 29, 30] (by decide +kernel) (by decide +kernel)
set_option maxRecDepth 20000 in
theorem gX5_next_X5_isAhead : GoodIn wsX5_next (wsV RX5 93 RX5 yX5_isAhead wsX5_isAhead) := goodIn_app (goodIn_of _ (by decide +kernel)) ggX5_next_X5_isAhead
set_option maxRecDepth 20000 in
theorem ggX5_begins_X5_busy : GoodIn wsX5_begins wsX5_busy := goodIn_r _ [9, 10, 11, 2, 3, 12, 23, 24, 25, 26, 27, 28, 29, 30, 31, 32, 33, 34, 35, 36, 37, 38, 39, 40, 41] (by decide +kernel) (by decide +kernel)
set_option maxRecDepth 20000 in
theorem gX5_begins_X5_busy : GoodIn wsX5_begins (wsV RX5 97 RX5 yX5_busy wsX5_busy) := goodIn_app (goodIn_of _ (by decide +kernel)) ggX5_begins_X5_busy
set_option maxRecDepth 20000 in
theorem ggX5_begins_X5_next : GoodIn wsX5_begins wsX5_next := goodIn_r _ [16, 10, 1, 11, 17, 18, 19, 8, 20, 21, 4, 22, 23, 24, 25, 26, 27, 28, 29, 30, 31, 32, 33, 34, 35, 36, 37, 38, 39, 40, 41] (by decide +kernel) (by decide +kernel)
set_option maxRecDepth 20000 in
theorem gX5_begins_X5_next : GoodIn wsX5_begins (wsV RX5 101 RX5 yX5_next wsX5_next) := goodIn_app (goodIn_of _ (by decide +kernel)) ggX5_begins_X5_next
set_option maxRecDepth 20000 in
theorem ggX5_plays_X5_forgets : GoodIn wsX5_plays wsX5_forgets := goodIn_r _ [27, 4, 6, 18, 11, 19, 45, 46, 47, 48, 49, 50, 51, 52, 53, 54, 55, 56, 57, 58, 59, 60, 61, 62, 63] (by decide +kernel) (by decide +kernel)
set_option maxRecDepth 20000 in
theorem gX5_plays_X5_forgets : GoodIn wsX5_plays (wsV RX5 104 RX5 yX5_forgets wsX5_forgets) := goodIn_app (goodIn_of _ (by decide +kernel)) ggX5_plays_X5_forgets
set_option maxRecDepth 20000 in
theorem ggX5_plays_X5_begins : GoodIn wsX5_plays wsX5_begins := goodIn_r _ [31, 19, 18, 11, 1, 32, 33, 34, 26, 35, 3, 17, 6, 36, 37, 38, 39, 40, 41, 42, 43, 4, 44, 45, 46, 47, 48, 49, 50, 51, 52, 53, 54, 55, 56, 57, 58, 59, 60, 61, 62, 63] (by decide +kernel) (by decide +kernel)
set_option maxRecDepth 20000 in
theorem gX5_plays_X5_begins : GoodIn wsX5_plays (wsV RX5 115 RX5 yX5_begins wsX5_begins) := goodIn_app (goodIn_of _ (by decide +kernel)) ggX5_plays_X5_begins
set_option maxRecDepth 20000 in
theorem ggX5_played_X5_noStep : GoodIn wsX5_played wsX5_noStep := goodIn_r _ [9, 10, 11, 12, 13, 8, 14, 15, 16, 17, 18, 65, 66, 67, 68, 69, 70, 71, 72, 73, 74, 75, 76, 77, 78, 79, 80, 81, 82, 83] (by decide +kernel) (by decide +kernel)
set_option maxRecDepth 20000 in
theorem gX5_played_X5_noStep : GoodIn wsX5_played (wsV RX5 88 RX5 yX5_noStep wsX5_noStep) := goodIn_app (goodIn_of _ (by decide +kernel)) ggX5_played_X5_noStep
set_option maxRecDepth 20000 in
theorem ggX5_played_X5_throwsIf : GoodIn wsX5_played wsX5_throwsIf := goodIn_r _ [22, 1, 65, 66, 67, 68, 69, 70, 71, 72, 73, 74, 75, 76, 77, 78, 79, 80, 81, 82, 83] (by decide +kernel) (by decide +kernel)
set_option maxRecDepth 20000 in
theorem gX5_played_X5_throwsIf : GoodIn wsX5_played (wsV RX5 80 RX5 yX5_throwsIf wsX5_throwsIf) := goodIn_app (goodIn_of _ (by decide +kernel)) ggX5_played_X5_throwsIf
set_option maxRecDepth 20000 in
theorem ggX5_played_X5_in : GoodIn wsX5_played wsX5_in := goodIn_r _ [18] (by decide +kernel) (by decide +kernel)
set_option maxRecDepth 20000 in
theorem gX5_played_X5_in : GoodIn wsX5_played (va_wsS RX5 66 yX5_in wsX5_in) := goodIn_app (goodIn_of _ (by decide +kernel)) ggX5_played_X5_in
set_option maxRecDepth 20000 in
theorem ggX5_played_X5_plays : GoodIn wsX5_played wsX5_plays := goodIn_r _ [26, 27, 28, 15, 2, 29, 30, 31, 32, 33, 34, 4, 35, 36, 37, 10, 38, 39, 3, 40, 41, 42, 43, 44, 45, 46, 8, 47, 48, 49, 50, 51, 52, 53, 54, 55, 56, 57, 58, 59, 60, 61, 62, 63, 64, 65, 66, 67, 68, 69, 70, 71, 72, 73, 74, 75, 76, 77, 78, 79, 80, 81, 82, 83] (by decide +kernel) (by decide +kernel)
set_option maxRecDepth 20000 in
theorem gX5_played_X5_plays : GoodIn wsX5_played (wsV RX5 119 RX5 yX5_plays wsX5_plays) := goodIn_app (goodIn_of _ (by decide +kernel)) ggX5_played_X5_plays
set_option maxRecDepth 20000 in
theorem ggX5_trace_X5_plays : GoodIn wsX5_trace wsX5_plays := goodIn_r _ [11, 12, 13, 14, 15, 16, 17, 18, 19, 20, 21, 6, 22, 23, 24, 25, 26, 27, 4, 28, 29, 30, 31, 32, 33, 34, 10, 35, 36, 37, 38, 39, 40, 41, 42, 43, 44, 45, 46, 47, 48, 49, 50, 51, 52, 61, 62, 63, 64, 65, 66, 67, 68, 69, 70, 71, 72, 73, 74, 75, 76, 77, 78, 79] (by decide +kernel) (by decide +kernel)
set_option maxRecDepth 20000 in
theorem gX5_trace_X5_plays : GoodIn wsX5_trace (wsV RX5 119 RX5 yX5_plays wsX5_plays) := goodIn_app (goodIn_of _ (by decide +kernel)) ggX5_trace_X5_plays
set_option maxRecDepth 20000 in
theorem ggX5_trace_X5_isStep : GoodIn wsX5_trace wsX5_isStep := goodIn_r _ [56, 14, 25, 61, 62, 63, 64, 65, 66, 67, 68, 69, 70, 71, 72, 73, 74, 75, 76, 77, 78, 79] (by decide +kernel) (by decide +kernel)
set_option maxRecDepth 20000 in
theorem gX5_trace_X5_isStep : GoodIn wsX5_trace (wsV RX5 123 RX5 yX5_isStep wsX5_isStep) := goodIn_app (goodIn_of _ (by decide +kernel)) ggX5_trace_X5_isStep
set_option maxRecDepth 20000 in
theorem ggX5_trace_X5_stepsOfAll : GoodIn wsX5_trace wsX5_stepsOfAll := goodIn_r _ [60, 14, 25, 61, 62, 63, 64, 65, 66, 67, 68, 69, 70, 71, 72, 73, 74, 75, 76, 77, 78, 79] (by decide +kernel) (by decide +kernel)
set_option maxRecDepth 20000 in
theorem gX5_trace_X5_stepsOfAll : GoodIn wsX5_trace (wsV RX5 126 RX5 yX5_stepsOfAll wsX5_stepsOfAll) := goodIn_app (goodIn_of _ (by decide +kernel)) ggX5_trace_X5_stepsOfAll
set_option maxRecDepth 20000 in
theorem ggX5_unlike_X5_plays : GoodIn wsX5_unlike wsX5_plays := goodIn_r _ [11, 12, 13, 14, 15, 16, 17, 18, 19, 20, 21, 6, 22, 23, 24, 25, 26, 27, 4, 28, 29, 30, 31, 32, 33, 34, 10, 35, 36, 37, 38, 39, 40, 41, 42, 43, 44, 45, 46, 47, 48, 49, 50, 51, 52, 57, 58, 59, 60, 61, 62, 63, 64, 65, 66, 67, 68, 69, 70, 71, 72, 73, 74, 75] (by decide +kernel) (by decide +kernel)
set_option maxRecDepth 20000 in
theorem gX5_unlike_X5_plays : GoodIn wsX5_unlike (wsV RX5 119 RX5 yX5_plays wsX5_plays) := goodIn_app (goodIn_of _ (by decide +kernel)) ggX5_unlike_X5_plays
set_option maxRecDepth 20000 in
theorem ggX5_unlike_X5_isStep : GoodIn wsX5_unlike wsX5_isStep := goodIn_r _ [56, 14, 25, 57, 58, 59, 60, 61, 62, 63, 64, 65, 66, 67, 68, 69, 70, 71, 72, 73, 74, 75] (by decide +kernel) (by decide +kernel)
set_option maxRecDepth 20000 in
theorem gX5_unlike_X5_isStep : GoodIn wsX5_unlike (wsV RX5 123 RX5 yX5_isStep wsX5_isStep) := goodIn_app (goodIn_of _ (by decide +kernel)) ggX5_unlike_X5_isStep
set_option maxRecDepth 20000 in
theorem ggX5_isWhole_X5_isStep : GoodIn wsX5_isWhole wsX5_isStep := goodIn_r _ [7, 8, 9, 17, 18, 19, 20, 21, 22, 23, 24, 25, 26, 27, 28, 29, 30, 31, 32, 33, 34, 35] (by decide +kernel) (by decide +kernel)
set_option maxRecDepth 20000 in
theorem gX5_isWhole_X5_isStep : GoodIn wsX5_isWhole (wsV RX5 123 RX5 yX5_isStep wsX5_isStep) := goodIn_app (goodIn_of _ (by decide +kernel)) ggX5_isWhole_X5_isStep
set_option maxRecDepth 20000 in
theorem ggX5_isWhole_X5_seenCame : GoodIn wsX5_isWhole wsX5_seenCame := goodIn_r _ [13, 14, 2, 15, 16, 1, 17, 18, 19, 20, 21, 22, 23, 24, 25, 26, 27, 28, 29, 30, 31, 32, 33, 34, 35] (by decide +kernel) (by decide +kernel)
set_option maxRecDepth 20000 in
theorem gX5_isWhole_X5_seenCame : GoodIn wsX5_isWhole (wsV RX5 130 RX5 yX5_seenCame wsX5_seenCame) := goodIn_app (goodIn_of _ (by decide +kernel)) ggX5_isWhole_X5_seenCame
set_option maxRecDepth 20000 in
theorem ggX5_agrees_X5_forgets : GoodIn wsX5_agrees wsX5_forgets := goodIn_r _ [19, 2, 6, 14, 12, 13, 49, 50, 51, 52, 53, 54, 55, 56, 57, 58, 59, 60, 61, 62, 63, 64, 65, 66, 67] (by decide +kernel) (by decide +kernel)
set_option maxRecDepth 20000 in
theorem gX5_agrees_X5_forgets : GoodIn wsX5_agrees (wsV RX5 104 RX5 yX5_forgets wsX5_forgets) := goodIn_app (goodIn_of _ (by decide +kernel)) ggX5_agrees_X5_forgets
set_option maxRecDepth 20000 in
theorem ggX5_agrees_X5_isStep : GoodIn wsX5_agrees wsX5_isStep := goodIn_r _ [23, 7, 24, 49, 50, 51, 52, 53, 54, 55, 56, 57, 58, 59, 60, 61, 62, 63, 64, 65, 66, 67] (by decide +kernel) (by decide +kernel)
set_option maxRecDepth 20000 in
theorem gX5_agrees_X5_isStep : GoodIn wsX5_agrees (wsV RX5 123 RX5 yX5_isStep wsX5_isStep) := goodIn_app (goodIn_of _ (by decide +kernel)) ggX5_agrees_X5_isStep
set_option maxRecDepth 20000 in
theorem ggX5_agrees_X5_seenCame : GoodIn wsX5_agrees wsX5_seenCame := goodIn_r _ [28, 29, 30, 4, 31, 1, 49, 50, 51, 52, 53, 54, 55, 56, 57, 58, 59, 60, 61, 62, 63, 64, 65, 66, 67] (by decide +kernel) (by decide +kernel)
set_option maxRecDepth 20000 in
theorem gX5_agrees_X5_seenCame : GoodIn wsX5_agrees (wsV RX5 130 RX5 yX5_seenCame wsX5_seenCame) := goodIn_app (goodIn_of _ (by decide +kernel)) ggX5_agrees_X5_seenCame
set_option maxRecDepth 20000 in
theorem ggX5_agrees_X5_begins : GoodIn wsX5_agrees wsX5_begins := goodIn_r _ [35, 13, 14, 12, 3, 36, 37, 38, 18, 39, 7, 1, 6, 40, 41, 42, 43, 44, 45, 46, 47, 2, 48, 49, 50, 51, 52, 53, 54, 55, 56, 57, 58, 59, 60, 61, 62, 63, 64, 65, 66, 67] (by decide +kernel) (by decide +kernel)
set_option maxRecDepth 20000 in
theorem gX5_agrees_X5_begins : GoodIn wsX5_agrees (wsV RX5 115 RX5 yX5_begins wsX5_begins) := goodIn_app (goodIn_of _ (by decide +kernel)) ggX5_agrees_X5_begins
set_option maxRecDepth 20000 in
theorem ggX5_found_X5_noPlace : GoodIn wsX5_found wsX5_noPlace := goodIn_r _ [6, 7, 8, 9, 5, 10, 70, 71, 72, 73, 74, 75, 76, 77, 78, 79, 80, 81, 82, 83, 84, 85, 86, 87, 88] (by decide +kernel) (by decide +kernel)
set_option maxRecDepth 20000 in
theorem gX5_found_X5_noPlace : GoodIn wsX5_found (wsV RX5 84 RX5 yX5_noPlace wsX5_noPlace) := goodIn_app (goodIn_of _ (by decide +kernel)) ggX5_found_X5_noPlace
set_option maxRecDepth 20000 in
theorem ggX5_found_X5_throwsIf : GoodIn wsX5_found wsX5_throwsIf := goodIn_r _ [14, 1, 70, 71, 72, 73, 74, 75, 76, 77, 78, 79, 80, 81, 82, 83, 84, 85, 86, 87, 88] (by decide +kernel) (by decide +kernel)
set_option maxRecDepth 20000 in
theorem gX5_found_X5_throwsIf : GoodIn wsX5_found (wsV RX5 80 RX5 yX5_throwsIf wsX5_throwsIf) := goodIn_app (goodIn_of _ (by decide +kernel)) ggX5_found_X5_throwsIf
set_option maxRecDepth 20000 in
theorem ggX5_found_X5_isWhole : GoodIn wsX5_found wsX5_isWhole := goodIn_r _ [18, 19, 20, 21, 22, 23, 5, 24, 25, 26, 27, 28, 29, 30, 31, 32, 33, 70, 71, 72, 73, 74, 75, 76, 77, 78, 79, 80, 81, 82, 83, 84, 85, 86, 87, 88] (by decide +kernel) (by decide +kernel)
set_option maxRecDepth 20000 in
theorem gX5_found_X5_isWhole : GoodIn wsX5_found (wsV RX5 133 RX5 yX5_isWhole wsX5_isWhole) := goodIn_app (goodIn_of _ (by decide +kernel)) ggX5_found_X5_isWhole
set_option maxRecDepth 20000 in
theorem ggX5_found_X5_agrees : GoodIn wsX5_found wsX5_agrees := goodIn_r _ [37, 19, 38, 39, 32, 40, 41, 25, 42, 43, 44, 45, 46, 47, 48, 49, 50, 51, 5, 52, 21, 22, 23, 24, 26, 27, 28, 29, 30, 31, 20, 33, 53, 54, 55, 56, 57, 58, 59, 60, 61, 62, 63, 64, 65, 66, 67, 68, 69, 70, 71, 72, 73, 74, 75, 76, 77, 78, 79, 80, 81, 82, 83, 84, 85, 86, 87, 88] (by decide +kernel) (by decide +kernel)
set_option maxRecDepth 20000 in
theorem gX5_found_X5_agrees : GoodIn wsX5_found (wsV RX5 136 RX5 yX5_agrees wsX5_agrees) := goodIn_app (goodIn_of _ (by decide +kernel)) ggX5_found_X5_agrees
set_option maxRecDepth 20000 in
theorem ggX5_overlap_X5_noPlace : GoodIn wsX5_overlap wsX5_noPlace := goodIn_r _ [14, 15, 16, 17, 13, 18, 29, 30, 31, 32, 33, 34, 35, 36, 37, 38, 39, 40, 41, 42, 43, 44, 45, 46, 47] (by decide +kernel) (by decide +kernel)
set_option maxRecDepth 20000 in
theorem gX5_overlap_X5_noPlace : GoodIn wsX5_overlap (wsV RX5 84 RX5 yX5_noPlace wsX5_noPlace) := goodIn_app (goodIn_of _ (by decide +kernel)) ggX5_overlap_X5_noPlace
set_option maxRecDepth 20000 in
theorem ggX5_overlap_X5_throwsIf : GoodIn wsX5_overlap wsX5_throwsIf := goodIn_r _ [22, 1, 29, 30, 31, 32, 33, 34, 35, 36, 37, 38, 39, 40, 41, 42, 43, 44, 45, 46, 47] (by decide +kernel) (by decide +kernel)
set_option maxRecDepth 20000 in
theorem gX5_overlap_X5_throwsIf : GoodIn wsX5_overlap (wsV RX5 80 RX5 yX5_throwsIf wsX5_throwsIf) := goodIn_app (goodIn_of _ (by decide +kernel)) ggX5_overlap_X5_throwsIf
set_option maxRecDepth 20000 in
theorem ggX5_overlap_X5_isStep : GoodIn wsX5_overlap wsX5_isStep := goodIn_r _ [26, 27, 28, 29, 30, 31, 32, 33, 34, 35, 36, 37, 38, 39, 40, 41, 42, 43, 44, 45, 46, 47] (by decide +kernel) (by decide +kernel)
set_option maxRecDepth 20000 in
theorem gX5_overlap_X5_isStep : GoodIn wsX5_overlap (wsV RX5 123 RX5 yX5_isStep wsX5_isStep) := goodIn_app (goodIn_of _ (by decide +kernel)) ggX5_overlap_X5_isStep
set_option maxRecDepth 20000 in
theorem ggX5_counts_X5_noPlace : GoodIn wsX5_counts wsX5_noPlace := goodIn_r _ [14, 15, 16, 17, 13, 18, 79, 80, 81, 82, 83, 84, 85, 86, 87, 88, 89, 90, 91, 92, 93, 94, 95, 96, 97] (by decide +kernel) (by decide +kernel)
set_option maxRecDepth 20000 in
theorem gX5_counts_X5_noPlace : GoodIn wsX5_counts (wsV RX5 84 RX5 yX5_noPlace wsX5_noPlace) := goodIn_app (goodIn_of _ (by decide +kernel)) ggX5_counts_X5_noPlace
set_option maxRecDepth 20000 in
theorem ggX5_counts_X5_throwsIf : GoodIn wsX5_counts wsX5_throwsIf := goodIn_r _ [22, 1, 79, 80, 81, 82, 83, 84, 85, 86, 87, 88, 89, 90, 91, 92, 93, 94, 95, 96, 97] (by decide +kernel) (by decide +kernel)
set_option maxRecDepth 20000 in
theorem gX5_counts_X5_throwsIf : GoodIn wsX5_counts (wsV RX5 80 RX5 yX5_throwsIf wsX5_throwsIf) := goodIn_app (goodIn_of _ (by decide +kernel)) ggX5_counts_X5_throwsIf
set_option maxRecDepth 20000 in
theorem ggX5_counts_X5_in : GoodIn wsX5_counts wsX5_in := goodIn_r _ [18] (by decide +kernel) (by decide +kernel)
set_option maxRecDepth 20000 in
theorem gX5_counts_X5_in : GoodIn wsX5_counts (va_wsS RX5 66 yX5_in wsX5_in) := goodIn_app (goodIn_of _ (by decide +kernel)) ggX5_counts_X5_in
set_option maxRecDepth 20000 in
theorem ggX5_counts_X5_plays : GoodIn wsX5_counts wsX5_plays := goodIn_r _ [26, 27, 28, 29, 5, 30, 31, 32, 33, 34, 35, 9, 36, 37, 38, 39, 40, 3, 7, 41, 15, 42, 43, 44, 45, 46, 13, 47, 48, 49, 50, 51, 52, 53, 54, 55, 56, 57, 58, 59, 60, 61, 62, 63, 64, 79, 80, 81, 82, 83, 84, 85, 86, 87, 88, 89, 90, 91, 92, 93, 94, 95, 96, 97] (by decide +kernel) (by decide +kernel)
set_option maxRecDepth 20000 in
theorem gX5_counts_X5_plays : GoodIn wsX5_counts (wsV RX5 119 RX5 yX5_plays wsX5_plays) := goodIn_app (goodIn_of _ (by decide +kernel)) ggX5_counts_X5_plays
set_option maxRecDepth 20000 in
theorem ggX5_counts_X5_isStep : GoodIn wsX5_counts wsX5_isStep := goodIn_r _ [68, 29, 39, 79, 80, 81, 82, 83, 84, 85, 86, 87, 88, 89, 90, 91, 92, 93, 94, 95, 96, 97] (by decide +kernel) (by decide +kernel)
set_option maxRecDepth 20000 in
theorem gX5_counts_X5_isStep : GoodIn wsX5_counts (wsV RX5 123 RX5 yX5_isStep wsX5_isStep) := goodIn_app (goodIn_of _ (by decide +kernel)) ggX5_counts_X5_isStep
set_option maxRecDepth 20000 in
theorem ggX5_counts_X5_seenCame : GoodIn wsX5_counts wsX5_seenCame := goodIn_r _ [72, 30, 4, 8, 40, 3, 79, 80, 81, 82, 83, 84, 85, 86, 87, 88, 89, 90, 91, 92, 93, 94, 95, 96, 97] (by decide +kernel) (by decide +kernel)
set_option maxRecDepth 20000 in
theorem gX5_counts_X5_seenCame : GoodIn wsX5_counts (wsV RX5 130 RX5 yX5_seenCame wsX5_seenCame) := goodIn_app (goodIn_of _ (by decide +kernel)) ggX5_counts_X5_seenCame
set_option maxRecDepth 20000 in
theorem ggX5_counts_X5_common : GoodIn wsX5_counts wsX5_common := goodIn_r _ [75, 32, 33, 34, 35, 36, 37, 38, 76, 77, 78] (by decide +kernel) (by decide +kernel)
set_option maxRecDepth 20000 in
theorem gX5_counts_X5_common : GoodIn wsX5_counts (va_wsS RX5 142 yX5_common wsX5_common) := goodIn_app (goodIn_of _ (by decide +kernel)) ggX5_counts_X5_common
set_option maxRecDepth 20000 in
theorem ggX5_totalWith_X5_plays : GoodIn wsX5_totalWith wsX5_plays := goodIn_r _ [9, 10, 11, 1, 12, 4, 13, 14, 15, 16, 17, 2, 18, 19, 20, 3, 21, 22, 23, 24, 25, 26, 27, 28, 29, 30, 8, 31, 32, 33, 34, 35, 36, 37, 38, 39, 40, 41, 42, 43, 44, 45, 46, 47, 48, 49, 50, 51, 52, 53, 54, 55, 56, 57, 58, 59, 60, 61, 62, 63, 64, 65, 66, 67] (by decide +kernel) (by decide +kernel)
set_option maxRecDepth 20000 in
theorem gX5_totalWith_X5_plays : GoodIn wsX5_totalWith (wsV RX5 119 RX5 yX5_plays wsX5_plays) := goodIn_app (goodIn_of _ (by decide +kernel)) ggX5_totalWith_X5_plays
set_option maxRecDepth 20000 in
theorem ggX5_total_X5_totalWith : GoodIn wsX5_total wsX5_totalWith := goodIn_r _ [6, 7, 8, 9, 10, 11, 12, 13, 5, 14, 15, 16, 17, 18, 19, 20, 21, 22, 23, 24, 25, 26, 27, 28, 29, 30, 31, 32, 33, 34, 35, 36, 37, 38, 39, 40, 41, 42, 43, 44, 45, 46, 47, 48, 49, 50, 51, 52, 53, 54, 55, 56, 57, 58, 59, 60, 61, 62, 63, 64, 65, 66, 67, 68, 69, 70, 71, 72] (by decide +kernel) (by decide +kernel)
set_option maxRecDepth 20000 in
theorem gX5_total_X5_totalWith : GoodIn wsX5_total (wsV RX5 146 RX5 yX5_totalWith wsX5_totalWith) := goodIn_app (goodIn_of _ (by decide +kernel)) ggX5_total_X5_totalWith
set_option maxRecDepth 20000 in
theorem ggX5_saved_X5_noPlace : GoodIn wsX5_saved wsX5_noPlace := goodIn_r _ [6, 7, 8, 9, 5, 10, 65, 66, 67, 68, 69, 70, 71, 72, 73, 74, 75, 76, 77, 78, 79, 80, 81, 82, 83] (by decide +kernel) (by decide +kernel)
set_option maxRecDepth 20000 in
theorem gX5_saved_X5_noPlace : GoodIn wsX5_saved (wsV RX5 84 RX5 yX5_noPlace wsX5_noPlace) := goodIn_app (goodIn_of _ (by decide +kernel)) ggX5_saved_X5_noPlace
set_option maxRecDepth 20000 in
theorem ggX5_saved_X5_throwsIf : GoodIn wsX5_saved wsX5_throwsIf := goodIn_r _ [14, 1, 65, 66, 67, 68, 69, 70, 71, 72, 73, 74, 75, 76, 77, 78, 79, 80, 81, 82, 83] (by decide +kernel) (by decide +kernel)
set_option maxRecDepth 20000 in
theorem gX5_saved_X5_throwsIf : GoodIn wsX5_saved (wsV RX5 80 RX5 yX5_throwsIf wsX5_throwsIf) := goodIn_app (goodIn_of _ (by decide +kernel)) ggX5_saved_X5_throwsIf
set_option maxRecDepth 20000 in
theorem ggX5_saved_X5_totalWith : GoodIn wsX5_saved wsX5_totalWith := goodIn_r _ [18, 19, 20, 21, 22, 23, 24, 25, 5, 26, 27, 28, 29, 30, 31, 32, 33, 34, 35, 36, 37, 38, 39, 40, 41, 7, 42, 43, 44, 45, 46, 47, 48, 49, 50, 51, 52, 53, 54, 55, 56, 57, 58, 59, 60, 61, 62, 63, 64, 65, 66, 67, 68, 69, 70, 71, 72, 73, 74, 75, 76, 77, 78, 79, 80, 81, 82, 83] (by decide +kernel) (by decide +kernel)
set_option maxRecDepth 20000 in
theorem gX5_saved_X5_totalWith : GoodIn wsX5_saved (wsV RX5 146 RX5 yX5_totalWith wsX5_totalWith) := goodIn_app (goodIn_of _ (by decide +kernel)) ggX5_saved_X5_totalWith
set_option maxRecDepth 20000 in
theorem ggX5_narrow_X5_totalWith : GoodIn wsX5_narrow wsX5_totalWith := goodIn_r _ [7, 8, 9, 10, 11, 12, 13, 14, 6, 15, 16, 17, 18, 19, 20, 21, 22, 23, 24, 25, 26, 27, 28, 29, 30, 2, 31, 32, 33, 34, 35, 36, 37, 38, 39, 40, 41, 42, 43, 44, 45, 46, 47, 48, 49, 50, 51, 52, 53, 54, 55, 56, 57, 58, 59, 60, 61, 62, 63, 64, 65, 66, 67, 68, 69, 70, 71, 72] (by decide +kernel) (by decide +kernel)
set_option maxRecDepth 20000 in
theorem gX5_narrow_X5_totalWith : GoodIn wsX5_narrow (wsV RX5 146 RX5 yX5_totalWith wsX5_totalWith) := goodIn_app (goodIn_of _ (by decide +kernel)) ggX5_narrow_X5_totalWith
set_option maxRecDepth 20000 in
theorem ggX5_alone_X5_noAsk : GoodIn wsX5_alone wsX5_noAsk := goodIn_r _ [11, 12, 13, 14, 10, 15, 20, 21, 22, 23, 24, 25, 26, 27, 28, 29, 30, 31, 32, 33, 34, 35, 36, 37, 38] (by decide +kernel) (by decide +kernel)
set_option maxRecDepth 20000 in
theorem gX5_alone_X5_noAsk : GoodIn wsX5_alone (wsV RX5 73 RX5 yX5_noAsk wsX5_noAsk) := goodIn_app (goodIn_of _ (by decide +kernel)) ggX5_alone_X5_noAsk
set_option maxRecDepth 20000 in
theorem ggX5_alone_X5_throwsIf : GoodIn wsX5_alone wsX5_throwsIf := goodIn_r _ [19, 1, 20, 21, 22, 23, 24, 25, 26, 27, 28, 29, 30, 31, 32, 33, 34, 35, 36, 37, 38] (by decide +kernel) (by decide +kernel)
set_option maxRecDepth 20000 in
theorem gX5_alone_X5_throwsIf : GoodIn wsX5_alone (wsV RX5 80 RX5 yX5_throwsIf wsX5_throwsIf) := goodIn_app (goodIn_of _ (by decide +kernel)) ggX5_alone_X5_throwsIf
set_option maxRecDepth 20000 in
theorem ggX5_count_X5_stepsOfAll : GoodIn wsX5_count wsX5_stepsOfAll := goodIn_r _ [9, 3, 10, 59, 60, 61, 62, 63, 64, 65, 66, 67, 68, 69, 70, 71, 72, 73, 74, 75, 76, 77] (by decide +kernel) (by decide +kernel)
set_option maxRecDepth 20000 in
theorem gX5_count_X5_stepsOfAll : GoodIn wsX5_count (wsV RX5 126 RX5 yX5_stepsOfAll wsX5_stepsOfAll) := goodIn_app (goodIn_of _ (by decide +kernel)) ggX5_count_X5_stepsOfAll
set_option maxRecDepth 20000 in
theorem ggX5_count_X5_isStep : GoodIn wsX5_count wsX5_isStep := goodIn_r _ [14, 3, 10, 59, 60, 61, 62, 63, 64, 65, 66, 67, 68, 69, 70, 71, 72, 73, 74, 75, 76, 77] (by decide +kernel) (by decide +kernel)
set_option maxRecDepth 20000 in
theorem gX5_count_X5_isStep : GoodIn wsX5_count (wsV RX5 123 RX5 yX5_isStep wsX5_isStep) := goodIn_app (goodIn_of _ (by decide +kernel)) ggX5_count_X5_isStep
set_option maxRecDepth 20000 in
theorem ggX5_count_X5_plays : GoodIn wsX5_count wsX5_plays := goodIn_r _ [18, 19, 20, 3, 21, 22, 23, 24, 25, 26, 27, 28, 29, 30, 31, 10, 32, 33, 34, 35, 2, 36, 37, 38, 39, 40, 8, 41, 42, 43, 44, 45, 46, 47, 48, 49, 50, 51, 52, 53, 54, 55, 56, 57, 58, 59, 60, 61, 62, 63, 64, 65, 66, 67, 68, 69, 70, 71, 72, 73, 74, 75, 76, 77] (by decide +kernel) (by decide +kernel)
set_option maxRecDepth 20000 in
theorem gX5_count_X5_plays : GoodIn wsX5_count (wsV RX5 119 RX5 yX5_plays wsX5_plays) := goodIn_app (goodIn_of _ (by decide +kernel)) ggX5_count_X5_plays
end
section
theorem dX0_init_0 : decode cX0_init 0 = .ok (.aload_n 0, 1) := by decide +kernel
theorem dX0_init_1 : decode cX0_init 1 = .ok (.invokespecial 3, 3) := by decide +kernel
theorem dX0_init_4 : decode cX0_init 4 = .ok (.aload_n 0, 1) := by decide +kernel
theorem dX0_init_5 : decode cX0_init 5 = .ok (.iconst 0, 1) := by decide +kernel
theorem dX0_init_6 : decode cX0_init 6 = .ok (.putfield 9, 3) := by decide +kernel
theorem dX0_init_9 : decode cX0_init 9 = .ok (.aload_n 0, 1) := by decide +kernel
theorem dX0_init_10 : decode cX0_init 10 = .ok (.iconst 0, 1) := by decide +kernel
theorem dX0_init_11 : decode cX0_init 11 = .ok (.putfield 15, 3) := by decide +kernel
theorem dX0_init_14 : decode cX0_init 14 = .ok (.aload_n 0, 1) := by decide +kernel
theorem dX0_init_15 : decode cX0_init 15 = .ok (.sipush 300, 3) := by decide +kernel
theorem dX0_init_18 : decode cX0_init 18 = .ok (.newarray .int, 2) := by decide +kernel
theorem dX0_init_20 : decode cX0_init 20 = .ok (.putfield 19, 3) := by decide +kernel
theorem dX0_init_23 : decode cX0_init 23 = .ok (.aload_n 0, 1) := by decide +kernel
theorem dX0_init_24 : decode cX0_init 24 = .ok (.sipush 300, 3) := by decide +kernel
theorem dX0_init_27 : decode cX0_init 27 = .ok (.newarray .int, 2) := by decide +kernel
theorem dX0_init_29 : decode cX0_init 29 = .ok (.putfield 23, 3) := by decide +kernel
theorem dX0_init_32 : decode cX0_init 32 = .ok (.aload_n 0, 1) := by decide +kernel
theorem dX0_init_33 : decode cX0_init 33 = .ok (.sipush 300, 3) := by decide +kernel
theorem dX0_init_36 : decode cX0_init 36 = .ok (.newarray .int, 2) := by decide +kernel
theorem dX0_init_38 : decode cX0_init 38 = .ok (.putfield 26, 3) := by decide +kernel
theorem dX0_init_41 : decode cX0_init 41 = .ok (.aload_n 0, 1) := by decide +kernel
theorem dX0_init_42 : decode cX0_init 42 = .ok (.sipush 300, 3) := by decide +kernel
theorem dX0_init_45 : decode cX0_init 45 = .ok (.newarray .int, 2) := by decide +kernel
theorem dX0_init_47 : decode cX0_init 47 = .ok (.putfield 29, 3) := by decide +kernel
theorem dX0_init_50 : decode cX0_init 50 = .ok (.aload_n 0, 1) := by decide +kernel
theorem dX0_init_51 : decode cX0_init 51 = .ok (.sipush 300, 3) := by decide +kernel
theorem dX0_init_54 : decode cX0_init 54 = .ok (.newarray .long, 2) := by decide +kernel
theorem dX0_init_56 : decode cX0_init 56 = .ok (.putfield 32, 3) := by decide +kernel
theorem dX0_init_59 : decode cX0_init 59 = .ok (.return_, 1) := by decide +kernel
theorem dX0_gather_0 : decode cX0_gather 0 = .ok (.aload_n 0, 1) := by decide +kernel
theorem dX0_gather_1 : decode cX0_gather 1 = .ok (.iconst 0, 1) := by decide +kernel
theorem dX0_gather_2 : decode cX0_gather 2 = .ok (.putfield 9, 3) := by decide +kernel
theorem dX0_gather_5 : decode cX0_gather 5 = .ok (.aload_n 0, 1) := by decide +kernel
theorem dX0_gather_6 : decode cX0_gather 6 = .ok (.iconst 1, 1) := by decide +kernel
theorem dX0_gather_7 : decode cX0_gather 7 = .ok (.putfield 15, 3) := by decide +kernel
theorem dX0_gather_10 : decode cX0_gather 10 = .ok (.iconst 0, 1) := by decide +kernel
theorem dX0_gather_11 : decode cX0_gather 11 = .ok (.istore 4, 2) := by decide +kernel
theorem dX0_gather_13 : decode cX0_gather 13 = .ok (.iload 4, 2) := by decide +kernel
theorem dX0_gather_15 : decode cX0_gather 15 = .ok (.aload_n 1, 1) := by decide +kernel
theorem dX0_gather_16 : decode cX0_gather 16 = .ok (.invokevirtual 36, 3) := by decide +kernel
theorem dX0_gather_19 : decode cX0_gather 19 = .ok (.if_icmp .ge 132, 3) := by decide +kernel
theorem dX0_gather_22 : decode cX0_gather 22 = .ok (.aload_n 1, 1) := by decide +kernel
theorem dX0_gather_23 : decode cX0_gather 23 = .ok (.getfield 42, 3) := by decide +kernel
theorem dX0_gather_26 : decode cX0_gather 26 = .ok (.iload 4, 2) := by decide +kernel
theorem dX0_gather_28 : decode cX0_gather 28 = .ok (.iaload, 1) := by decide +kernel
theorem dX0_gather_29 : decode cX0_gather 29 = .ok (.iload_n 3, 1) := by decide +kernel
theorem dX0_gather_30 : decode cX0_gather 30 = .ok (.if_icmp .ne 115, 3) := by decide +kernel
theorem dX0_gather_33 : decode cX0_gather 33 = .ok (.aload_n 2, 1) := by decide +kernel
theorem dX0_gather_34 : decode cX0_gather 34 = .ok (.aload_n 1, 1) := by decide +kernel
theorem dX0_gather_35 : decode cX0_gather 35 = .ok (.iload 4, 2) := by decide +kernel
theorem dX0_gather_37 : decode cX0_gather 37 = .ok (.invokevirtual 45, 3) := by decide +kernel
theorem dX0_gather_40 : decode cX0_gather 40 = .ok (.istore 5, 2) := by decide +kernel
theorem dX0_gather_42 : decode cX0_gather 42 = .ok (.aload_n 0, 1) := by decide +kernel
theorem dX0_gather_43 : decode cX0_gather 43 = .ok (.aload_n 0, 1) := by decide +kernel
theorem dX0_gather_44 : decode cX0_gather 44 = .ok (.getfield 15, 3) := by decide +kernel
theorem dX0_gather_47 : decode cX0_gather 47 = .ok (.ifCond .eq 13, 3) := by decide +kernel
theorem dX0_gather_50 : decode cX0_gather 50 = .ok (.iload 5, 2) := by decide +kernel
theorem dX0_gather_52 : decode cX0_gather 52 = .ok (.iconst (-1), 1) := by decide +kernel
theorem dX0_gather_53 : decode cX0_gather 53 = .ok (.if_icmp .eq 7, 3) := by decide +kernel
theorem dX0_gather_56 : decode cX0_gather 56 = .ok (.iconst 1, 1) := by decide +kernel
theorem dX0_gather_57 : decode cX0_gather 57 = .ok (.goto 4, 3) := by decide +kernel
theorem dX0_gather_60 : decode cX0_gather 60 = .ok (.iconst 0, 1) := by decide +kernel
theorem dX0_gather_61 : decode cX0_gather 61 = .ok (.putfield 15, 3) := by decide +kernel
theorem dX0_gather_64 : decode cX0_gather 64 = .ok (.aload_n 2, 1) := by decide +kernel
theorem dX0_gather_65 : decode cX0_gather 65 = .ok (.getfield 51, 3) := by decide +kernel
theorem dX0_gather_68 : decode cX0_gather 68 = .ok (.iload 4, 2) := by decide +kernel
theorem dX0_gather_70 : decode cX0_gather 70 = .ok (.baload, 1) := by decide +kernel
theorem dX0_gather_71 : decode cX0_gather 71 = .ok (.ifCond .eq 74, 3) := by decide +kernel
theorem dX0_gather_74 : decode cX0_gather 74 = .ok (.aload_n 0, 1) := by decide +kernel
theorem dX0_gather_75 : decode cX0_gather 75 = .ok (.getfield 19, 3) := by decide +kernel
theorem dX0_gather_78 : decode cX0_gather 78 = .ok (.aload_n 0, 1) := by decide +kernel
theorem dX0_gather_79 : decode cX0_gather 79 = .ok (.getfield 9, 3) := by decide +kernel
theorem dX0_gather_82 : decode cX0_gather 82 = .ok (.iload 5, 2) := by decide +kernel
theorem dX0_gather_84 : decode cX0_gather 84 = .ok (.iastore, 1) := by decide +kernel
theorem dX0_gather_85 : decode cX0_gather 85 = .ok (.aload_n 0, 1) := by decide +kernel
theorem dX0_gather_86 : decode cX0_gather 86 = .ok (.getfield 23, 3) := by decide +kernel
theorem dX0_gather_89 : decode cX0_gather 89 = .ok (.aload_n 0, 1) := by decide +kernel
theorem dX0_gather_90 : decode cX0_gather 90 = .ok (.getfield 9, 3) := by decide +kernel
theorem dX0_gather_93 : decode cX0_gather 93 = .ok (.aload_n 2, 1) := by decide +kernel
theorem dX0_gather_94 : decode cX0_gather 94 = .ok (.getfield 55, 3) := by decide +kernel
theorem dX0_gather_97 : decode cX0_gather 97 = .ok (.iload 4, 2) := by decide +kernel
theorem dX0_gather_99 : decode cX0_gather 99 = .ok (.iaload, 1) := by decide +kernel
theorem dX0_gather_100 : decode cX0_gather 100 = .ok (.iastore, 1) := by decide +kernel
theorem dX0_gather_101 : decode cX0_gather 101 = .ok (.aload_n 0, 1) := by decide +kernel
theorem dX0_gather_102 : decode cX0_gather 102 = .ok (.getfield 26, 3) := by decide +kernel
theorem dX0_gather_105 : decode cX0_gather 105 = .ok (.aload_n 0, 1) := by decide +kernel
theorem dX0_gather_106 : decode cX0_gather 106 = .ok (.getfield 9, 3) := by decide +kernel
theorem dX0_gather_109 : decode cX0_gather 109 = .ok (.aload_n 2, 1) := by decide +kernel
theorem dX0_gather_110 : decode cX0_gather 110 = .ok (.getfield 56, 3) := by decide +kernel
theorem dX0_gather_113 : decode cX0_gather 113 = .ok (.iload 4, 2) := by decide +kernel
theorem dX0_gather_115 : decode cX0_gather 115 = .ok (.iaload, 1) := by decide +kernel
theorem dX0_gather_116 : decode cX0_gather 116 = .ok (.iastore, 1) := by decide +kernel
theorem dX0_gather_117 : decode cX0_gather 117 = .ok (.aload_n 0, 1) := by decide +kernel
theorem dX0_gather_118 : decode cX0_gather 118 = .ok (.getfield 29, 3) := by decide +kernel
theorem dX0_gather_121 : decode cX0_gather 121 = .ok (.aload_n 0, 1) := by decide +kernel
theorem dX0_gather_122 : decode cX0_gather 122 = .ok (.getfield 9, 3) := by decide +kernel
theorem dX0_gather_125 : decode cX0_gather 125 = .ok (.aload_n 1, 1) := by decide +kernel
theorem dX0_gather_126 : decode cX0_gather 126 = .ok (.getfield 57, 3) := by decide +kernel
theorem dX0_gather_129 : decode cX0_gather 129 = .ok (.iload 4, 2) := by decide +kernel
theorem dX0_gather_131 : decode cX0_gather 131 = .ok (.iconst 5, 1) := by decide +kernel
theorem dX0_gather_132 : decode cX0_gather 132 = .ok (.idiv, 1) := by decide +kernel
theorem dX0_gather_133 : decode cX0_gather 133 = .ok (.iaload, 1) := by decide +kernel
theorem dX0_gather_134 : decode cX0_gather 134 = .ok (.iastore, 1) := by decide +kernel
theorem dX0_gather_135 : decode cX0_gather 135 = .ok (.aload_n 0, 1) := by decide +kernel
theorem dX0_gather_136 : decode cX0_gather 136 = .ok (.dup, 1) := by decide +kernel
theorem dX0_gather_137 : decode cX0_gather 137 = .ok (.getfield 9, 3) := by decide +kernel
theorem dX0_gather_140 : decode cX0_gather 140 = .ok (.iconst 1, 1) := by decide +kernel
theorem dX0_gather_141 : decode cX0_gather 141 = .ok (.iadd, 1) := by decide +kernel
theorem dX0_gather_142 : decode cX0_gather 142 = .ok (.putfield 9, 3) := by decide +kernel
theorem dX0_gather_145 : decode cX0_gather 145 = .ok (.iinc 4 1, 3) := by decide +kernel
theorem dX0_gather_148 : decode cX0_gather 148 = .ok (.goto (-135), 3) := by decide +kernel
theorem dX0_gather_151 : decode cX0_gather 151 = .ok (.return_, 1) := by decide +kernel
theorem dX0_mostAtOnce_0 : decode cX0_mostAtOnce 0 = .ok (.iconst 0, 1) := by decide +kernel
theorem dX0_mostAtOnce_1 : decode cX0_mostAtOnce 1 = .ok (.istore_n 1, 1) := by decide +kernel
theorem dX0_mostAtOnce_2 : decode cX0_mostAtOnce 2 = .ok (.iconst 0, 1) := by decide +kernel
theorem dX0_mostAtOnce_3 : decode cX0_mostAtOnce 3 = .ok (.istore_n 2, 1) := by decide +kernel
theorem dX0_mostAtOnce_4 : decode cX0_mostAtOnce 4 = .ok (.iload_n 2, 1) := by decide +kernel
theorem dX0_mostAtOnce_5 : decode cX0_mostAtOnce 5 = .ok (.aload_n 0, 1) := by decide +kernel
theorem dX0_mostAtOnce_6 : decode cX0_mostAtOnce 6 = .ok (.getfield 9, 3) := by decide +kernel
theorem dX0_mostAtOnce_9 : decode cX0_mostAtOnce 9 = .ok (.if_icmp .ge 24, 3) := by decide +kernel
theorem dX0_mostAtOnce_12 : decode cX0_mostAtOnce 12 = .ok (.iload_n 1, 1) := by decide +kernel
theorem dX0_mostAtOnce_13 : decode cX0_mostAtOnce 13 = .ok (.aload_n 0, 1) := by decide +kernel
theorem dX0_mostAtOnce_14 : decode cX0_mostAtOnce 14 = .ok (.aload_n 0, 1) := by decide +kernel
theorem dX0_mostAtOnce_15 : decode cX0_mostAtOnce 15 = .ok (.getfield 23, 3) := by decide +kernel
theorem dX0_mostAtOnce_18 : decode cX0_mostAtOnce 18 = .ok (.iload_n 2, 1) := by decide +kernel
theorem dX0_mostAtOnce_19 : decode cX0_mostAtOnce 19 = .ok (.iaload, 1) := by decide +kernel
theorem dX0_mostAtOnce_20 : decode cX0_mostAtOnce 20 = .ok (.invokevirtual 58, 3) := by decide +kernel
theorem dX0_mostAtOnce_23 : decode cX0_mostAtOnce 23 = .ok (.invokestatic 62, 3) := by decide +kernel
theorem dX0_mostAtOnce_26 : decode cX0_mostAtOnce 26 = .ok (.istore_n 1, 1) := by decide +kernel
theorem dX0_mostAtOnce_27 : decode cX0_mostAtOnce 27 = .ok (.iinc 2 1, 3) := by decide +kernel
theorem dX0_mostAtOnce_30 : decode cX0_mostAtOnce 30 = .ok (.goto (-26), 3) := by decide +kernel
theorem dX0_mostAtOnce_33 : decode cX0_mostAtOnce 33 = .ok (.iload_n 1, 1) := by decide +kernel
theorem dX0_mostAtOnce_34 : decode cX0_mostAtOnce 34 = .ok (.ireturn, 1) := by decide +kernel
theorem dX0_leastHelpers_0 : decode cX0_leastHelpers 0 = .ok (.aload_n 0, 1) := by decide +kernel
theorem dX0_leastHelpers_1 : decode cX0_leastHelpers 1 = .ok (.invokevirtual 68, 3) := by decide +kernel
theorem dX0_leastHelpers_4 : decode cX0_leastHelpers 4 = .ok (.iconst (-1), 1) := by decide +kernel
theorem dX0_leastHelpers_5 : decode cX0_leastHelpers 5 = .ok (.if_icmp .ne 7, 3) := by decide +kernel
theorem dX0_leastHelpers_8 : decode cX0_leastHelpers 8 = .ok (.iconst (-1), 1) := by decide +kernel
theorem dX0_leastHelpers_9 : decode cX0_leastHelpers 9 = .ok (.goto 7, 3) := by decide +kernel
theorem dX0_leastHelpers_12 : decode cX0_leastHelpers 12 = .ok (.aload_n 0, 1) := by decide +kernel
theorem dX0_leastHelpers_13 : decode cX0_leastHelpers 13 = .ok (.invokevirtual 71, 3) := by decide +kernel
theorem dX0_leastHelpers_16 : decode cX0_leastHelpers 16 = .ok (.ireturn, 1) := by decide +kernel
theorem dX0_firstRule_0 : decode cX0_firstRule 0 = .ok (.aload_n 0, 1) := by decide +kernel
theorem dX0_firstRule_1 : decode cX0_firstRule 1 = .ok (.getfield 15, 3) := by decide +kernel
theorem dX0_firstRule_4 : decode cX0_firstRule 4 = .ok (.ifCond .eq 21, 3) := by decide +kernel
theorem dX0_firstRule_7 : decode cX0_firstRule 7 = .ok (.aload_n 0, 1) := by decide +kernel
theorem dX0_firstRule_8 : decode cX0_firstRule 8 = .ok (.getfield 9, 3) := by decide +kernel
theorem dX0_firstRule_11 : decode cX0_firstRule 11 = .ok (.ifCond .eq 14, 3) := by decide +kernel
theorem dX0_firstRule_14 : decode cX0_firstRule 14 = .ok (.aload_n 0, 1) := by decide +kernel
theorem dX0_firstRule_15 : decode cX0_firstRule 15 = .ok (.aload_n 0, 1) := by decide +kernel
theorem dX0_firstRule_16 : decode cX0_firstRule 16 = .ok (.invokevirtual 71, 3) := by decide +kernel
theorem dX0_firstRule_19 : decode cX0_firstRule 19 = .ok (.invokevirtual 74, 3) := by decide +kernel
theorem dX0_firstRule_22 : decode cX0_firstRule 22 = .ok (.ifCond .ne 5, 3) := by decide +kernel
theorem dX0_firstRule_25 : decode cX0_firstRule 25 = .ok (.iconst (-1), 1) := by decide +kernel
theorem dX0_firstRule_26 : decode cX0_firstRule 26 = .ok (.ireturn, 1) := by decide +kernel
theorem dX0_firstRule_27 : decode cX0_firstRule 27 = .ok (.iconst 0, 1) := by decide +kernel
theorem dX0_firstRule_28 : decode cX0_firstRule 28 = .ok (.istore_n 1, 1) := by decide +kernel
theorem dX0_firstRule_29 : decode cX0_firstRule 29 = .ok (.iload_n 1, 1) := by decide +kernel
theorem dX0_firstRule_30 : decode cX0_firstRule 30 = .ok (.iconst 3, 1) := by decide +kernel
theorem dX0_firstRule_31 : decode cX0_firstRule 31 = .ok (.if_icmp .gt 19, 3) := by decide +kernel
theorem dX0_firstRule_34 : decode cX0_firstRule 34 = .ok (.aload_n 0, 1) := by decide +kernel
theorem dX0_firstRule_35 : decode cX0_firstRule 35 = .ok (.iload_n 1, 1) := by decide +kernel
theorem dX0_firstRule_36 : decode cX0_firstRule 36 = .ok (.invokevirtual 78, 3) := by decide +kernel
theorem dX0_firstRule_39 : decode cX0_firstRule 39 = .ok (.ifCond .eq 5, 3) := by decide +kernel
theorem dX0_firstRule_42 : decode cX0_firstRule 42 = .ok (.iload_n 1, 1) := by decide +kernel
theorem dX0_firstRule_43 : decode cX0_firstRule 43 = .ok (.ireturn, 1) := by decide +kernel
theorem dX0_firstRule_44 : decode cX0_firstRule 44 = .ok (.iinc 1 1, 3) := by decide +kernel
theorem dX0_firstRule_47 : decode cX0_firstRule 47 = .ok (.goto (-18), 3) := by decide +kernel
theorem dX0_firstRule_50 : decode cX0_firstRule 50 = .ok (.iconst (-1), 1) := by decide +kernel
theorem dX0_firstRule_51 : decode cX0_firstRule 51 = .ok (.ireturn, 1) := by decide +kernel
theorem dX0_isPossible_0 : decode cX0_isPossible 0 = .ok (.iload_n 1, 1) := by decide +kernel
theorem dX0_isPossible_1 : decode cX0_isPossible 1 = .ok (.bipush 8, 2) := by decide +kernel
theorem dX0_isPossible_3 : decode cX0_isPossible 3 = .ok (.if_icmp .le 5, 3) := by decide +kernel
theorem dX0_isPossible_6 : decode cX0_isPossible 6 = .ok (.iconst 0, 1) := by decide +kernel
theorem dX0_isPossible_7 : decode cX0_isPossible 7 = .ok (.ireturn, 1) := by decide +kernel
theorem dX0_isPossible_8 : decode cX0_isPossible 8 = .ok (.iconst 0, 1) := by decide +kernel
theorem dX0_isPossible_9 : decode cX0_isPossible 9 = .ok (.istore_n 2, 1) := by decide +kernel
theorem dX0_isPossible_10 : decode cX0_isPossible 10 = .ok (.iload_n 2, 1) := by decide +kernel
theorem dX0_isPossible_11 : decode cX0_isPossible 11 = .ok (.aload_n 0, 1) := by decide +kernel
theorem dX0_isPossible_12 : decode cX0_isPossible 12 = .ok (.getfield 9, 3) := by decide +kernel
theorem dX0_isPossible_15 : decode cX0_isPossible 15 = .ok (.if_icmp .ge 54, 3) := by decide +kernel
theorem dX0_isPossible_18 : decode cX0_isPossible 18 = .ok (.aload_n 0, 1) := by decide +kernel
theorem dX0_isPossible_19 : decode cX0_isPossible 19 = .ok (.getfield 23, 3) := by decide +kernel
theorem dX0_isPossible_22 : decode cX0_isPossible 22 = .ok (.iload_n 2, 1) := by decide +kernel
theorem dX0_isPossible_23 : decode cX0_isPossible 23 = .ok (.iaload, 1) := by decide +kernel
theorem dX0_isPossible_24 : decode cX0_isPossible 24 = .ok (.aload_n 0, 1) := by decide +kernel
theorem dX0_isPossible_25 : decode cX0_isPossible 25 = .ok (.getfield 19, 3) := by decide +kernel
theorem dX0_isPossible_28 : decode cX0_isPossible 28 = .ok (.iload_n 2, 1) := by decide +kernel
theorem dX0_isPossible_29 : decode cX0_isPossible 29 = .ok (.iaload, 1) := by decide +kernel
theorem dX0_isPossible_30 : decode cX0_isPossible 30 = .ok (.if_icmp .lt 31, 3) := by decide +kernel
theorem dX0_isPossible_33 : decode cX0_isPossible 33 = .ok (.aload_n 0, 1) := by decide +kernel
theorem dX0_isPossible_34 : decode cX0_isPossible 34 = .ok (.aload_n 0, 1) := by decide +kernel
theorem dX0_isPossible_35 : decode cX0_isPossible 35 = .ok (.getfield 19, 3) := by decide +kernel
theorem dX0_isPossible_38 : decode cX0_isPossible 38 = .ok (.iload_n 2, 1) := by decide +kernel
theorem dX0_isPossible_39 : decode cX0_isPossible 39 = .ok (.iaload, 1) := by decide +kernel
theorem dX0_isPossible_40 : decode cX0_isPossible 40 = .ok (.iload_n 1, 1) := by decide +kernel
theorem dX0_isPossible_41 : decode cX0_isPossible 41 = .ok (.invokevirtual 81, 3) := by decide +kernel
theorem dX0_isPossible_44 : decode cX0_isPossible 44 = .ok (.ifCond .ne 17, 3) := by decide +kernel
theorem dX0_isPossible_47 : decode cX0_isPossible 47 = .ok (.aload_n 0, 1) := by decide +kernel
theorem dX0_isPossible_48 : decode cX0_isPossible 48 = .ok (.aload_n 0, 1) := by decide +kernel
theorem dX0_isPossible_49 : decode cX0_isPossible 49 = .ok (.getfield 26, 3) := by decide +kernel
theorem dX0_isPossible_52 : decode cX0_isPossible 52 = .ok (.iload_n 2, 1) := by decide +kernel
theorem dX0_isPossible_53 : decode cX0_isPossible 53 = .ok (.iaload, 1) := by decide +kernel
theorem dX0_isPossible_54 : decode cX0_isPossible 54 = .ok (.iload_n 1, 1) := by decide +kernel
theorem dX0_isPossible_55 : decode cX0_isPossible 55 = .ok (.invokevirtual 81, 3) := by decide +kernel
theorem dX0_isPossible_58 : decode cX0_isPossible 58 = .ok (.ifCond .eq 5, 3) := by decide +kernel
theorem dX0_isPossible_61 : decode cX0_isPossible 61 = .ok (.iconst 0, 1) := by decide +kernel
theorem dX0_isPossible_62 : decode cX0_isPossible 62 = .ok (.ireturn, 1) := by decide +kernel
theorem dX0_isPossible_63 : decode cX0_isPossible 63 = .ok (.iinc 2 1, 3) := by decide +kernel
theorem dX0_isPossible_66 : decode cX0_isPossible 66 = .ok (.goto (-56), 3) := by decide +kernel
theorem dX0_isPossible_69 : decode cX0_isPossible 69 = .ok (.iconst 1, 1) := by decide +kernel
theorem dX0_isPossible_70 : decode cX0_isPossible 70 = .ok (.ireturn, 1) := by decide +kernel
theorem dX0_isIdleAt_0 : decode cX0_isIdleAt 0 = .ok (.iconst 0, 1) := by decide +kernel
theorem dX0_isIdleAt_1 : decode cX0_isIdleAt 1 = .ok (.istore_n 3, 1) := by decide +kernel
theorem dX0_isIdleAt_2 : decode cX0_isIdleAt 2 = .ok (.iload_n 3, 1) := by decide +kernel
theorem dX0_isIdleAt_3 : decode cX0_isIdleAt 3 = .ok (.aload_n 0, 1) := by decide +kernel
theorem dX0_isIdleAt_4 : decode cX0_isIdleAt 4 = .ok (.getfield 9, 3) := by decide +kernel
theorem dX0_isIdleAt_7 : decode cX0_isIdleAt 7 = .ok (.if_icmp .ge 33, 3) := by decide +kernel
theorem dX0_isIdleAt_10 : decode cX0_isIdleAt 10 = .ok (.aload_n 0, 1) := by decide +kernel
theorem dX0_isIdleAt_11 : decode cX0_isIdleAt 11 = .ok (.iload_n 3, 1) := by decide +kernel
theorem dX0_isIdleAt_12 : decode cX0_isIdleAt 12 = .ok (.iload_n 1, 1) := by decide +kernel
theorem dX0_isIdleAt_13 : decode cX0_isIdleAt 13 = .ok (.invokevirtual 85, 3) := by decide +kernel
theorem dX0_isIdleAt_16 : decode cX0_isIdleAt 16 = .ok (.ifCond .eq 18, 3) := by decide +kernel
theorem dX0_isIdleAt_19 : decode cX0_isIdleAt 19 = .ok (.aload_n 0, 1) := by decide +kernel
theorem dX0_isIdleAt_20 : decode cX0_isIdleAt 20 = .ok (.iload_n 1, 1) := by decide +kernel
theorem dX0_isIdleAt_21 : decode cX0_isIdleAt 21 = .ok (.invokevirtual 58, 3) := by decide +kernel
theorem dX0_isIdleAt_24 : decode cX0_isIdleAt 24 = .ok (.iload_n 2, 1) := by decide +kernel
theorem dX0_isIdleAt_25 : decode cX0_isIdleAt 25 = .ok (.if_icmp .ge 7, 3) := by decide +kernel
theorem dX0_isIdleAt_28 : decode cX0_isIdleAt 28 = .ok (.iconst 1, 1) := by decide +kernel
theorem dX0_isIdleAt_29 : decode cX0_isIdleAt 29 = .ok (.goto 4, 3) := by decide +kernel
theorem dX0_isIdleAt_32 : decode cX0_isIdleAt 32 = .ok (.iconst 0, 1) := by decide +kernel
theorem dX0_isIdleAt_33 : decode cX0_isIdleAt 33 = .ok (.ireturn, 1) := by decide +kernel
theorem dX0_isIdleAt_34 : decode cX0_isIdleAt 34 = .ok (.iinc 3 1, 3) := by decide +kernel
theorem dX0_isIdleAt_37 : decode cX0_isIdleAt 37 = .ok (.goto (-35), 3) := by decide +kernel
theorem dX0_isIdleAt_40 : decode cX0_isIdleAt 40 = .ok (.iconst 0, 1) := by decide +kernel
theorem dX0_isIdleAt_41 : decode cX0_isIdleAt 41 = .ok (.ireturn, 1) := by decide +kernel
theorem dX0_isLeftAt_0 : decode cX0_isLeftAt 0 = .ok (.aload_n 0, 1) := by decide +kernel
theorem dX0_isLeftAt_1 : decode cX0_isLeftAt 1 = .ok (.getfield 19, 3) := by decide +kernel
theorem dX0_isLeftAt_4 : decode cX0_isLeftAt 4 = .ok (.iload_n 1, 1) := by decide +kernel
theorem dX0_isLeftAt_5 : decode cX0_isLeftAt 5 = .ok (.iaload, 1) := by decide +kernel
theorem dX0_isLeftAt_6 : decode cX0_isLeftAt 6 = .ok (.iload_n 2, 1) := by decide +kernel
theorem dX0_isLeftAt_7 : decode cX0_isLeftAt 7 = .ok (.if_icmp .gt 17, 3) := by decide +kernel
theorem dX0_isLeftAt_10 : decode cX0_isLeftAt 10 = .ok (.aload_n 0, 1) := by decide +kernel
theorem dX0_isLeftAt_11 : decode cX0_isLeftAt 11 = .ok (.getfield 23, 3) := by decide +kernel
theorem dX0_isLeftAt_14 : decode cX0_isLeftAt 14 = .ok (.iload_n 1, 1) := by decide +kernel
theorem dX0_isLeftAt_15 : decode cX0_isLeftAt 15 = .ok (.iaload, 1) := by decide +kernel
theorem dX0_isLeftAt_16 : decode cX0_isLeftAt 16 = .ok (.iload_n 2, 1) := by decide +kernel
theorem dX0_isLeftAt_17 : decode cX0_isLeftAt 17 = .ok (.if_icmp .le 7, 3) := by decide +kernel
theorem dX0_isLeftAt_20 : decode cX0_isLeftAt 20 = .ok (.iconst 1, 1) := by decide +kernel
theorem dX0_isLeftAt_21 : decode cX0_isLeftAt 21 = .ok (.goto 4, 3) := by decide +kernel
theorem dX0_isLeftAt_24 : decode cX0_isLeftAt 24 = .ok (.iconst 0, 1) := by decide +kernel
theorem dX0_isLeftAt_25 : decode cX0_isLeftAt 25 = .ok (.ireturn, 1) := by decide +kernel
theorem dX0_helpedAt_0 : decode cX0_helpedAt 0 = .ok (.iconst 0, 1) := by decide +kernel
theorem dX0_helpedAt_1 : decode cX0_helpedAt 1 = .ok (.istore_n 2, 1) := by decide +kernel
theorem dX0_helpedAt_2 : decode cX0_helpedAt 2 = .ok (.iconst 0, 1) := by decide +kernel
theorem dX0_helpedAt_3 : decode cX0_helpedAt 3 = .ok (.istore_n 3, 1) := by decide +kernel
theorem dX0_helpedAt_4 : decode cX0_helpedAt 4 = .ok (.iload_n 3, 1) := by decide +kernel
theorem dX0_helpedAt_5 : decode cX0_helpedAt 5 = .ok (.aload_n 0, 1) := by decide +kernel
theorem dX0_helpedAt_6 : decode cX0_helpedAt 6 = .ok (.getfield 9, 3) := by decide +kernel
theorem dX0_helpedAt_9 : decode cX0_helpedAt 9 = .ok (.if_icmp .ge 32, 3) := by decide +kernel
theorem dX0_helpedAt_12 : decode cX0_helpedAt 12 = .ok (.aload_n 0, 1) := by decide +kernel
theorem dX0_helpedAt_13 : decode cX0_helpedAt 13 = .ok (.getfield 23, 3) := by decide +kernel
theorem dX0_helpedAt_16 : decode cX0_helpedAt 16 = .ok (.iload_n 3, 1) := by decide +kernel
theorem dX0_helpedAt_17 : decode cX0_helpedAt 17 = .ok (.iaload, 1) := by decide +kernel
theorem dX0_helpedAt_18 : decode cX0_helpedAt 18 = .ok (.iload_n 1, 1) := by decide +kernel
theorem dX0_helpedAt_19 : decode cX0_helpedAt 19 = .ok (.if_icmp .gt 16, 3) := by decide +kernel
theorem dX0_helpedAt_22 : decode cX0_helpedAt 22 = .ok (.aload_n 0, 1) := by decide +kernel
theorem dX0_helpedAt_23 : decode cX0_helpedAt 23 = .ok (.getfield 26, 3) := by decide +kernel
theorem dX0_helpedAt_26 : decode cX0_helpedAt 26 = .ok (.iload_n 3, 1) := by decide +kernel
theorem dX0_helpedAt_27 : decode cX0_helpedAt 27 = .ok (.iaload, 1) := by decide +kernel
theorem dX0_helpedAt_28 : decode cX0_helpedAt 28 = .ok (.iload_n 1, 1) := by decide +kernel
theorem dX0_helpedAt_29 : decode cX0_helpedAt 29 = .ok (.if_icmp .le 6, 3) := by decide +kernel
theorem dX0_helpedAt_32 : decode cX0_helpedAt 32 = .ok (.iinc 2 1, 3) := by decide +kernel
theorem dX0_helpedAt_35 : decode cX0_helpedAt 35 = .ok (.iinc 3 1, 3) := by decide +kernel
theorem dX0_helpedAt_38 : decode cX0_helpedAt 38 = .ok (.goto (-34), 3) := by decide +kernel
theorem dX0_helpedAt_41 : decode cX0_helpedAt 41 = .ok (.iload_n 2, 1) := by decide +kernel
theorem dX0_helpedAt_42 : decode cX0_helpedAt 42 = .ok (.ireturn, 1) := by decide +kernel
theorem dX0_isOrderedBy_0 : decode cX0_isOrderedBy 0 = .ok (.iconst 0, 1) := by decide +kernel
theorem dX0_isOrderedBy_1 : decode cX0_isOrderedBy 1 = .ok (.istore_n 2, 1) := by decide +kernel
theorem dX0_isOrderedBy_2 : decode cX0_isOrderedBy 2 = .ok (.iload_n 2, 1) := by decide +kernel
theorem dX0_isOrderedBy_3 : decode cX0_isOrderedBy 3 = .ok (.aload_n 0, 1) := by decide +kernel
theorem dX0_isOrderedBy_4 : decode cX0_isOrderedBy 4 = .ok (.getfield 9, 3) := by decide +kernel
theorem dX0_isOrderedBy_7 : decode cX0_isOrderedBy 7 = .ok (.if_icmp .ge 44, 3) := by decide +kernel
theorem dX0_isOrderedBy_10 : decode cX0_isOrderedBy 10 = .ok (.aload_n 0, 1) := by decide +kernel
theorem dX0_isOrderedBy_11 : decode cX0_isOrderedBy 11 = .ok (.getfield 32, 3) := by decide +kernel
theorem dX0_isOrderedBy_14 : decode cX0_isOrderedBy 14 = .ok (.iload_n 2, 1) := by decide +kernel
theorem dX0_isOrderedBy_15 : decode cX0_isOrderedBy 15 = .ok (.iload_n 1, 1) := by decide +kernel
theorem dX0_isOrderedBy_16 : decode cX0_isOrderedBy 16 = .ok (.aload_n 0, 1) := by decide +kernel
theorem dX0_isOrderedBy_17 : decode cX0_isOrderedBy 17 = .ok (.getfield 19, 3) := by decide +kernel
theorem dX0_isOrderedBy_20 : decode cX0_isOrderedBy 20 = .ok (.iload_n 2, 1) := by decide +kernel
theorem dX0_isOrderedBy_21 : decode cX0_isOrderedBy 21 = .ok (.iaload, 1) := by decide +kernel
theorem dX0_isOrderedBy_22 : decode cX0_isOrderedBy 22 = .ok (.aload_n 0, 1) := by decide +kernel
theorem dX0_isOrderedBy_23 : decode cX0_isOrderedBy 23 = .ok (.getfield 26, 3) := by decide +kernel
theorem dX0_isOrderedBy_26 : decode cX0_isOrderedBy 26 = .ok (.iload_n 2, 1) := by decide +kernel
theorem dX0_isOrderedBy_27 : decode cX0_isOrderedBy 27 = .ok (.iaload, 1) := by decide +kernel
theorem dX0_isOrderedBy_28 : decode cX0_isOrderedBy 28 = .ok (.aload_n 0, 1) := by decide +kernel
theorem dX0_isOrderedBy_29 : decode cX0_isOrderedBy 29 = .ok (.getfield 23, 3) := by decide +kernel
theorem dX0_isOrderedBy_32 : decode cX0_isOrderedBy 32 = .ok (.iload_n 2, 1) := by decide +kernel
theorem dX0_isOrderedBy_33 : decode cX0_isOrderedBy 33 = .ok (.iaload, 1) := by decide +kernel
theorem dX0_isOrderedBy_34 : decode cX0_isOrderedBy 34 = .ok (.isub, 1) := by decide +kernel
theorem dX0_isOrderedBy_35 : decode cX0_isOrderedBy 35 = .ok (.aload_n 0, 1) := by decide +kernel
theorem dX0_isOrderedBy_36 : decode cX0_isOrderedBy 36 = .ok (.getfield 29, 3) := by decide +kernel
theorem dX0_isOrderedBy_39 : decode cX0_isOrderedBy 39 = .ok (.iload_n 2, 1) := by decide +kernel
theorem dX0_isOrderedBy_40 : decode cX0_isOrderedBy 40 = .ok (.iaload, 1) := by decide +kernel
theorem dX0_isOrderedBy_41 : decode cX0_isOrderedBy 41 = .ok (.invokestatic 88, 3) := by decide +kernel
theorem dX0_isOrderedBy_44 : decode cX0_isOrderedBy 44 = .ok (.lastore, 1) := by decide +kernel
theorem dX0_isOrderedBy_45 : decode cX0_isOrderedBy 45 = .ok (.iinc 2 1, 3) := by decide +kernel
theorem dX0_isOrderedBy_48 : decode cX0_isOrderedBy 48 = .ok (.goto (-46), 3) := by decide +kernel
theorem dX0_isOrderedBy_51 : decode cX0_isOrderedBy 51 = .ok (.iconst 0, 1) := by decide +kernel
theorem dX0_isOrderedBy_52 : decode cX0_isOrderedBy 52 = .ok (.istore_n 2, 1) := by decide +kernel
theorem dX0_isOrderedBy_53 : decode cX0_isOrderedBy 53 = .ok (.iload_n 2, 1) := by decide +kernel
theorem dX0_isOrderedBy_54 : decode cX0_isOrderedBy 54 = .ok (.aload_n 0, 1) := by decide +kernel
theorem dX0_isOrderedBy_55 : decode cX0_isOrderedBy 55 = .ok (.getfield 9, 3) := by decide +kernel
theorem dX0_isOrderedBy_58 : decode cX0_isOrderedBy 58 = .ok (.if_icmp .ge 50, 3) := by decide +kernel
theorem dX0_isOrderedBy_61 : decode cX0_isOrderedBy 61 = .ok (.iconst 0, 1) := by decide +kernel
theorem dX0_isOrderedBy_62 : decode cX0_isOrderedBy 62 = .ok (.istore_n 3, 1) := by decide +kernel
theorem dX0_isOrderedBy_63 : decode cX0_isOrderedBy 63 = .ok (.iload_n 3, 1) := by decide +kernel
theorem dX0_isOrderedBy_64 : decode cX0_isOrderedBy 64 = .ok (.aload_n 0, 1) := by decide +kernel
theorem dX0_isOrderedBy_65 : decode cX0_isOrderedBy 65 = .ok (.getfield 9, 3) := by decide +kernel
theorem dX0_isOrderedBy_68 : decode cX0_isOrderedBy 68 = .ok (.if_icmp .ge 34, 3) := by decide +kernel
theorem dX0_isOrderedBy_71 : decode cX0_isOrderedBy 71 = .ok (.aload_n 0, 1) := by decide +kernel
theorem dX0_isOrderedBy_72 : decode cX0_isOrderedBy 72 = .ok (.iload_n 3, 1) := by decide +kernel
theorem dX0_isOrderedBy_73 : decode cX0_isOrderedBy 73 = .ok (.aload_n 0, 1) := by decide +kernel
theorem dX0_isOrderedBy_74 : decode cX0_isOrderedBy 74 = .ok (.getfield 23, 3) := by decide +kernel
theorem dX0_isOrderedBy_77 : decode cX0_isOrderedBy 77 = .ok (.iload_n 2, 1) := by decide +kernel
theorem dX0_isOrderedBy_78 : decode cX0_isOrderedBy 78 = .ok (.iaload, 1) := by decide +kernel
theorem dX0_isOrderedBy_79 : decode cX0_isOrderedBy 79 = .ok (.invokevirtual 85, 3) := by decide +kernel
theorem dX0_isOrderedBy_82 : decode cX0_isOrderedBy 82 = .ok (.ifCond .eq 14, 3) := by decide +kernel
theorem dX0_isOrderedBy_85 : decode cX0_isOrderedBy 85 = .ok (.aload_n 0, 1) := by decide +kernel
theorem dX0_isOrderedBy_86 : decode cX0_isOrderedBy 86 = .ok (.iload_n 3, 1) := by decide +kernel
theorem dX0_isOrderedBy_87 : decode cX0_isOrderedBy 87 = .ok (.iload_n 2, 1) := by decide +kernel
theorem dX0_isOrderedBy_88 : decode cX0_isOrderedBy 88 = .ok (.invokevirtual 92, 3) := by decide +kernel
theorem dX0_isOrderedBy_91 : decode cX0_isOrderedBy 91 = .ok (.ifCond .eq 5, 3) := by decide +kernel
theorem dX0_isOrderedBy_94 : decode cX0_isOrderedBy 94 = .ok (.iconst 0, 1) := by decide +kernel
theorem dX0_isOrderedBy_95 : decode cX0_isOrderedBy 95 = .ok (.ireturn, 1) := by decide +kernel
theorem dX0_isOrderedBy_96 : decode cX0_isOrderedBy 96 = .ok (.iinc 3 1, 3) := by decide +kernel
theorem dX0_isOrderedBy_99 : decode cX0_isOrderedBy 99 = .ok (.goto (-36), 3) := by decide +kernel
theorem dX0_isOrderedBy_102 : decode cX0_isOrderedBy 102 = .ok (.iinc 2 1, 3) := by decide +kernel
theorem dX0_isOrderedBy_105 : decode cX0_isOrderedBy 105 = .ok (.goto (-52), 3) := by decide +kernel
theorem dX0_isOrderedBy_108 : decode cX0_isOrderedBy 108 = .ok (.iconst 1, 1) := by decide +kernel
theorem dX0_isOrderedBy_109 : decode cX0_isOrderedBy 109 = .ok (.ireturn, 1) := by decide +kernel
theorem dX0_isAhead_0 : decode cX0_isAhead 0 = .ok (.aload_n 0, 1) := by decide +kernel
theorem dX0_isAhead_1 : decode cX0_isAhead 1 = .ok (.getfield 32, 3) := by decide +kernel
theorem dX0_isAhead_4 : decode cX0_isAhead 4 = .ok (.iload_n 1, 1) := by decide +kernel
theorem dX0_isAhead_5 : decode cX0_isAhead 5 = .ok (.laload, 1) := by decide +kernel
theorem dX0_isAhead_6 : decode cX0_isAhead 6 = .ok (.aload_n 0, 1) := by decide +kernel
theorem dX0_isAhead_7 : decode cX0_isAhead 7 = .ok (.getfield 32, 3) := by decide +kernel
theorem dX0_isAhead_10 : decode cX0_isAhead 10 = .ok (.iload_n 2, 1) := by decide +kernel
theorem dX0_isAhead_11 : decode cX0_isAhead 11 = .ok (.laload, 1) := by decide +kernel
theorem dX0_isAhead_12 : decode cX0_isAhead 12 = .ok (.lcmp, 1) := by decide +kernel
theorem dX0_isAhead_13 : decode cX0_isAhead 13 = .ok (.ifCond .lt 24, 3) := by decide +kernel
theorem dX0_isAhead_16 : decode cX0_isAhead 16 = .ok (.aload_n 0, 1) := by decide +kernel
theorem dX0_isAhead_17 : decode cX0_isAhead 17 = .ok (.getfield 32, 3) := by decide +kernel
theorem dX0_isAhead_20 : decode cX0_isAhead 20 = .ok (.iload_n 1, 1) := by decide +kernel
theorem dX0_isAhead_21 : decode cX0_isAhead 21 = .ok (.laload, 1) := by decide +kernel
theorem dX0_isAhead_22 : decode cX0_isAhead 22 = .ok (.aload_n 0, 1) := by decide +kernel
theorem dX0_isAhead_23 : decode cX0_isAhead 23 = .ok (.getfield 32, 3) := by decide +kernel
theorem dX0_isAhead_26 : decode cX0_isAhead 26 = .ok (.iload_n 2, 1) := by decide +kernel
theorem dX0_isAhead_27 : decode cX0_isAhead 27 = .ok (.laload, 1) := by decide +kernel
theorem dX0_isAhead_28 : decode cX0_isAhead 28 = .ok (.lcmp, 1) := by decide +kernel
theorem dX0_isAhead_29 : decode cX0_isAhead 29 = .ok (.ifCond .ne 12, 3) := by decide +kernel
theorem dX0_isAhead_32 : decode cX0_isAhead 32 = .ok (.iload_n 1, 1) := by decide +kernel
theorem dX0_isAhead_33 : decode cX0_isAhead 33 = .ok (.iload_n 2, 1) := by decide +kernel
theorem dX0_isAhead_34 : decode cX0_isAhead 34 = .ok (.if_icmp .ge 7, 3) := by decide +kernel
theorem dX0_isAhead_37 : decode cX0_isAhead 37 = .ok (.iconst 1, 1) := by decide +kernel
theorem dX0_isAhead_38 : decode cX0_isAhead 38 = .ok (.goto 4, 3) := by decide +kernel
theorem dX0_isAhead_41 : decode cX0_isAhead 41 = .ok (.iconst 0, 1) := by decide +kernel
theorem dX0_isAhead_42 : decode cX0_isAhead 42 = .ok (.ireturn, 1) := by decide +kernel
theorem dX1_init_0 : decode cX1_init 0 = .ok (.aload_n 0, 1) := by decide +kernel
theorem dX1_init_1 : decode cX1_init 1 = .ok (.invokespecial 3, 3) := by decide +kernel
theorem dX1_init_4 : decode cX1_init 4 = .ok (.aload_n 0, 1) := by decide +kernel
theorem dX1_init_5 : decode cX1_init 5 = .ok (.iconst 0, 1) := by decide +kernel
theorem dX1_init_6 : decode cX1_init 6 = .ok (.putfield 9, 3) := by decide +kernel
theorem dX1_init_9 : decode cX1_init 9 = .ok (.aload_n 0, 1) := by decide +kernel
theorem dX1_init_10 : decode cX1_init 10 = .ok (.iconst 0, 1) := by decide +kernel
theorem dX1_init_11 : decode cX1_init 11 = .ok (.putfield 15, 3) := by decide +kernel
theorem dX1_init_14 : decode cX1_init 14 = .ok (.aload_n 0, 1) := by decide +kernel
theorem dX1_init_15 : decode cX1_init 15 = .ok (.iconst 0, 1) := by decide +kernel
theorem dX1_init_16 : decode cX1_init 16 = .ok (.putfield 18, 3) := by decide +kernel
theorem dX1_init_19 : decode cX1_init 19 = .ok (.aload_n 0, 1) := by decide +kernel
theorem dX1_init_20 : decode cX1_init 20 = .ok (.iconst 5, 1) := by decide +kernel
theorem dX1_init_21 : decode cX1_init 21 = .ok (.newarray .int, 2) := by decide +kernel
theorem dX1_init_23 : decode cX1_init 23 = .ok (.putfield 21, 3) := by decide +kernel
theorem dX1_init_26 : decode cX1_init 26 = .ok (.aload_n 0, 1) := by decide +kernel
theorem dX1_init_27 : decode cX1_init 27 = .ok (.iconst 5, 1) := by decide +kernel
theorem dX1_init_28 : decode cX1_init 28 = .ok (.newarray .int, 2) := by decide +kernel
theorem dX1_init_30 : decode cX1_init 30 = .ok (.putfield 25, 3) := by decide +kernel
theorem dX1_init_33 : decode cX1_init 33 = .ok (.aload_n 0, 1) := by decide +kernel
theorem dX1_init_34 : decode cX1_init 34 = .ok (.iconst 5, 1) := by decide +kernel
theorem dX1_init_35 : decode cX1_init 35 = .ok (.newarray .int, 2) := by decide +kernel
theorem dX1_init_37 : decode cX1_init 37 = .ok (.putfield 28, 3) := by decide +kernel
theorem dX1_init_40 : decode cX1_init 40 = .ok (.aload_n 0, 1) := by decide +kernel
theorem dX1_init_41 : decode cX1_init 41 = .ok (.bipush 60, 2) := by decide +kernel
theorem dX1_init_43 : decode cX1_init 43 = .ok (.newarray .int, 2) := by decide +kernel
theorem dX1_init_45 : decode cX1_init 45 = .ok (.putfield 31, 3) := by decide +kernel
theorem dX1_init_48 : decode cX1_init 48 = .ok (.aload_n 0, 1) := by decide +kernel
theorem dX1_init_49 : decode cX1_init 49 = .ok (.bipush 60, 2) := by decide +kernel
theorem dX1_init_51 : decode cX1_init 51 = .ok (.newarray .int, 2) := by decide +kernel
theorem dX1_init_53 : decode cX1_init 53 = .ok (.putfield 34, 3) := by decide +kernel
theorem dX1_init_56 : decode cX1_init 56 = .ok (.aload_n 0, 1) := by decide +kernel
theorem dX1_init_57 : decode cX1_init 57 = .ok (.bipush 60, 2) := by decide +kernel
theorem dX1_init_59 : decode cX1_init 59 = .ok (.newarray .int, 2) := by decide +kernel
theorem dX1_init_61 : decode cX1_init 61 = .ok (.putfield 37, 3) := by decide +kernel
theorem dX1_init_64 : decode cX1_init 64 = .ok (.aload_n 0, 1) := by decide +kernel
theorem dX1_init_65 : decode cX1_init 65 = .ok (.sipush 300, 3) := by decide +kernel
theorem dX1_init_68 : decode cX1_init 68 = .ok (.newarray .int, 2) := by decide +kernel
theorem dX1_init_70 : decode cX1_init 70 = .ok (.putfield 40, 3) := by decide +kernel
theorem dX1_init_73 : decode cX1_init 73 = .ok (.aload_n 0, 1) := by decide +kernel
theorem dX1_init_74 : decode cX1_init 74 = .ok (.sipush 300, 3) := by decide +kernel
theorem dX1_init_77 : decode cX1_init 77 = .ok (.newarray .int, 2) := by decide +kernel
theorem dX1_init_79 : decode cX1_init 79 = .ok (.putfield 43, 3) := by decide +kernel
theorem dX1_init_82 : decode cX1_init 82 = .ok (.aload_n 0, 1) := by decide +kernel
theorem dX1_init_83 : decode cX1_init 83 = .ok (.getfield 40, 3) := by decide +kernel
theorem dX1_init_86 : decode cX1_init 86 = .ok (.iconst (-1), 1) := by decide +kernel
theorem dX1_init_87 : decode cX1_init 87 = .ok (.invokestatic 46, 3) := by decide +kernel
theorem dX1_init_90 : decode cX1_init 90 = .ok (.return_, 1) := by decide +kernel
theorem dX1_setPlace_0 : decode cX1_setPlace 0 = .ok (.aload_n 0, 1) := by decide +kernel
theorem dX1_setPlace_1 : decode cX1_setPlace 1 = .ok (.getfield 21, 3) := by decide +kernel
theorem dX1_setPlace_4 : decode cX1_setPlace 4 = .ok (.iload_n 1, 1) := by decide +kernel
theorem dX1_setPlace_5 : decode cX1_setPlace 5 = .ok (.iload_n 2, 1) := by decide +kernel
theorem dX1_setPlace_6 : decode cX1_setPlace 6 = .ok (.iastore, 1) := by decide +kernel
theorem dX1_setPlace_7 : decode cX1_setPlace 7 = .ok (.aload_n 0, 1) := by decide +kernel
theorem dX1_setPlace_8 : decode cX1_setPlace 8 = .ok (.getfield 25, 3) := by decide +kernel
theorem dX1_setPlace_11 : decode cX1_setPlace 11 = .ok (.iload_n 1, 1) := by decide +kernel
theorem dX1_setPlace_12 : decode cX1_setPlace 12 = .ok (.iload_n 3, 1) := by decide +kernel
theorem dX1_setPlace_13 : decode cX1_setPlace 13 = .ok (.iastore, 1) := by decide +kernel
theorem dX1_setPlace_14 : decode cX1_setPlace 14 = .ok (.aload_n 0, 1) := by decide +kernel
theorem dX1_setPlace_15 : decode cX1_setPlace 15 = .ok (.getfield 28, 3) := by decide +kernel
theorem dX1_setPlace_18 : decode cX1_setPlace 18 = .ok (.iload_n 1, 1) := by decide +kernel
theorem dX1_setPlace_19 : decode cX1_setPlace 19 = .ok (.iload 4, 2) := by decide +kernel
theorem dX1_setPlace_21 : decode cX1_setPlace 21 = .ok (.iastore, 1) := by decide +kernel
theorem dX1_setPlace_22 : decode cX1_setPlace 22 = .ok (.return_, 1) := by decide +kernel
theorem dX1_addStep_0 : decode cX1_addStep 0 = .ok (.aload_n 0, 1) := by decide +kernel
theorem dX1_addStep_1 : decode cX1_addStep 1 = .ok (.getfield 37, 3) := by decide +kernel
theorem dX1_addStep_4 : decode cX1_addStep 4 = .ok (.iload_n 1, 1) := by decide +kernel
theorem dX1_addStep_5 : decode cX1_addStep 5 = .ok (.iaload, 1) := by decide +kernel
theorem dX1_addStep_6 : decode cX1_addStep 6 = .ok (.istore 4, 2) := by decide +kernel
theorem dX1_addStep_8 : decode cX1_addStep 8 = .ok (.aload_n 0, 1) := by decide +kernel
theorem dX1_addStep_9 : decode cX1_addStep 9 = .ok (.iload_n 1, 1) := by decide +kernel
theorem dX1_addStep_10 : decode cX1_addStep 10 = .ok (.invokevirtual 52, 3) := by decide +kernel
theorem dX1_addStep_13 : decode cX1_addStep 13 = .ok (.iload 4, 2) := by decide +kernel
theorem dX1_addStep_15 : decode cX1_addStep 15 = .ok (.iadd, 1) := by decide +kernel
theorem dX1_addStep_16 : decode cX1_addStep 16 = .ok (.istore 5, 2) := by decide +kernel
theorem dX1_addStep_18 : decode cX1_addStep 18 = .ok (.aload_n 0, 1) := by decide +kernel
theorem dX1_addStep_19 : decode cX1_addStep 19 = .ok (.getfield 40, 3) := by decide +kernel
theorem dX1_addStep_22 : decode cX1_addStep 22 = .ok (.iload 5, 2) := by decide +kernel
theorem dX1_addStep_24 : decode cX1_addStep 24 = .ok (.iload_n 2, 1) := by decide +kernel
theorem dX1_addStep_25 : decode cX1_addStep 25 = .ok (.iastore, 1) := by decide +kernel
theorem dX1_addStep_26 : decode cX1_addStep 26 = .ok (.aload_n 0, 1) := by decide +kernel
theorem dX1_addStep_27 : decode cX1_addStep 27 = .ok (.getfield 43, 3) := by decide +kernel
theorem dX1_addStep_30 : decode cX1_addStep 30 = .ok (.iload 5, 2) := by decide +kernel
theorem dX1_addStep_32 : decode cX1_addStep 32 = .ok (.iload_n 3, 1) := by decide +kernel
theorem dX1_addStep_33 : decode cX1_addStep 33 = .ok (.iastore, 1) := by decide +kernel
theorem dX1_addStep_34 : decode cX1_addStep 34 = .ok (.aload_n 0, 1) := by decide +kernel
theorem dX1_addStep_35 : decode cX1_addStep 35 = .ok (.getfield 37, 3) := by decide +kernel
theorem dX1_addStep_38 : decode cX1_addStep 38 = .ok (.iload_n 1, 1) := by decide +kernel
theorem dX1_addStep_39 : decode cX1_addStep 39 = .ok (.iload 4, 2) := by decide +kernel
theorem dX1_addStep_41 : decode cX1_addStep 41 = .ok (.iconst 1, 1) := by decide +kernel
theorem dX1_addStep_42 : decode cX1_addStep 42 = .ok (.iadd, 1) := by decide +kernel
theorem dX1_addStep_43 : decode cX1_addStep 43 = .ok (.iastore, 1) := by decide +kernel
theorem dX1_addStep_44 : decode cX1_addStep 44 = .ok (.aload_n 0, 1) := by decide +kernel
theorem dX1_addStep_45 : decode cX1_addStep 45 = .ok (.dup, 1) := by decide +kernel
theorem dX1_addStep_46 : decode cX1_addStep 46 = .ok (.getfield 18, 3) := by decide +kernel
theorem dX1_addStep_49 : decode cX1_addStep 49 = .ok (.iconst 1, 1) := by decide +kernel
theorem dX1_addStep_50 : decode cX1_addStep 50 = .ok (.iadd, 1) := by decide +kernel
theorem dX1_addStep_51 : decode cX1_addStep 51 = .ok (.putfield 18, 3) := by decide +kernel
theorem dX1_addStep_54 : decode cX1_addStep 54 = .ok (.iload 4, 2) := by decide +kernel
theorem dX1_addStep_56 : decode cX1_addStep 56 = .ok (.ireturn, 1) := by decide +kernel
theorem dX1_rowsEnd_0 : decode cX1_rowsEnd 0 = .ok (.aload_n 0, 1) := by decide +kernel
theorem dX1_rowsEnd_1 : decode cX1_rowsEnd 1 = .ok (.getfield 15, 3) := by decide +kernel
theorem dX1_rowsEnd_4 : decode cX1_rowsEnd 4 = .ok (.iconst 5, 1) := by decide +kernel
theorem dX1_rowsEnd_5 : decode cX1_rowsEnd 5 = .ok (.imul, 1) := by decide +kernel
theorem dX1_rowsEnd_6 : decode cX1_rowsEnd 6 = .ok (.ireturn, 1) := by decide +kernel
theorem dX1_firstRow_0 : decode cX1_firstRow 0 = .ok (.iload_n 1, 1) := by decide +kernel
theorem dX1_firstRow_1 : decode cX1_firstRow 1 = .ok (.iconst 5, 1) := by decide +kernel
theorem dX1_firstRow_2 : decode cX1_firstRow 2 = .ok (.imul, 1) := by decide +kernel
theorem dX1_firstRow_3 : decode cX1_firstRow 3 = .ok (.ireturn, 1) := by decide +kernel
theorem dX1_lastRow_0 : decode cX1_lastRow 0 = .ok (.aload_n 0, 1) := by decide +kernel
theorem dX1_lastRow_1 : decode cX1_lastRow 1 = .ok (.iload_n 1, 1) := by decide +kernel
theorem dX1_lastRow_2 : decode cX1_lastRow 2 = .ok (.invokevirtual 52, 3) := by decide +kernel
theorem dX1_lastRow_5 : decode cX1_lastRow 5 = .ok (.aload_n 0, 1) := by decide +kernel
theorem dX1_lastRow_6 : decode cX1_lastRow 6 = .ok (.getfield 37, 3) := by decide +kernel
theorem dX1_lastRow_9 : decode cX1_lastRow 9 = .ok (.iload_n 1, 1) := by decide +kernel
theorem dX1_lastRow_10 : decode cX1_lastRow 10 = .ok (.iaload, 1) := by decide +kernel
theorem dX1_lastRow_11 : decode cX1_lastRow 11 = .ok (.iadd, 1) := by decide +kernel
theorem dX1_lastRow_12 : decode cX1_lastRow 12 = .ok (.iconst 1, 1) := by decide +kernel
theorem dX1_lastRow_13 : decode cX1_lastRow 13 = .ok (.isub, 1) := by decide +kernel
theorem dX1_lastRow_14 : decode cX1_lastRow 14 = .ok (.ireturn, 1) := by decide +kernel
theorem dX1_isStep_0 : decode cX1_isStep 0 = .ok (.aload_n 0, 1) := by decide +kernel
theorem dX1_isStep_1 : decode cX1_isStep 1 = .ok (.getfield 40, 3) := by decide +kernel
theorem dX1_isStep_4 : decode cX1_isStep 4 = .ok (.iload_n 1, 1) := by decide +kernel
theorem dX1_isStep_5 : decode cX1_isStep 5 = .ok (.iaload, 1) := by decide +kernel
theorem dX1_isStep_6 : decode cX1_isStep 6 = .ok (.iconst (-1), 1) := by decide +kernel
theorem dX1_isStep_7 : decode cX1_isStep 7 = .ok (.if_icmp .eq 7, 3) := by decide +kernel
theorem dX1_isStep_10 : decode cX1_isStep 10 = .ok (.iconst 1, 1) := by decide +kernel
theorem dX1_isStep_11 : decode cX1_isStep 11 = .ok (.goto 4, 3) := by decide +kernel
theorem dX1_isStep_14 : decode cX1_isStep 14 = .ok (.iconst 0, 1) := by decide +kernel
theorem dX1_isStep_15 : decode cX1_isStep 15 = .ok (.ireturn, 1) := by decide +kernel
theorem dX2_init_0 : decode cX2_init 0 = .ok (.aload_n 0, 1) := by decide +kernel
theorem dX2_init_1 : decode cX2_init 1 = .ok (.invokespecial 3, 3) := by decide +kernel
theorem dX2_init_4 : decode cX2_init 4 = .ok (.aload_n 0, 1) := by decide +kernel
theorem dX2_init_5 : decode cX2_init 5 = .ok (.sipush 300, 3) := by decide +kernel
theorem dX2_init_8 : decode cX2_init 8 = .ok (.newarray .int, 2) := by decide +kernel
theorem dX2_init_10 : decode cX2_init 10 = .ok (.putfield 9, 3) := by decide +kernel
theorem dX2_init_13 : decode cX2_init 13 = .ok (.aload_n 0, 1) := by decide +kernel
theorem dX2_init_14 : decode cX2_init 14 = .ok (.sipush 300, 3) := by decide +kernel
theorem dX2_init_17 : decode cX2_init 17 = .ok (.newarray .int, 2) := by decide +kernel
theorem dX2_init_19 : decode cX2_init 19 = .ok (.putfield 15, 3) := by decide +kernel
theorem dX2_init_22 : decode cX2_init 22 = .ok (.aload_n 0, 1) := by decide +kernel
theorem dX2_init_23 : decode cX2_init 23 = .ok (.sipush 300, 3) := by decide +kernel
theorem dX2_init_26 : decode cX2_init 26 = .ok (.newarray .int, 2) := by decide +kernel
theorem dX2_init_28 : decode cX2_init 28 = .ok (.putfield 18, 3) := by decide +kernel
theorem dX2_init_31 : decode cX2_init 31 = .ok (.aload_n 0, 1) := by decide +kernel
theorem dX2_init_32 : decode cX2_init 32 = .ok (.bipush 60, 2) := by decide +kernel
theorem dX2_init_34 : decode cX2_init 34 = .ok (.newarray .int, 2) := by decide +kernel
theorem dX2_init_36 : decode cX2_init 36 = .ok (.putfield 21, 3) := by decide +kernel
theorem dX2_init_39 : decode cX2_init 39 = .ok (.aload_n 0, 1) := by decide +kernel
theorem dX2_init_40 : decode cX2_init 40 = .ok (.bipush 60, 2) := by decide +kernel
theorem dX2_init_42 : decode cX2_init 42 = .ok (.newarray .int, 2) := by decide +kernel
theorem dX2_init_44 : decode cX2_init 44 = .ok (.putfield 24, 3) := by decide +kernel
theorem dX2_init_47 : decode cX2_init 47 = .ok (.aload_n 0, 1) := by decide +kernel
theorem dX2_init_48 : decode cX2_init 48 = .ok (.bipush 60, 2) := by decide +kernel
theorem dX2_init_50 : decode cX2_init 50 = .ok (.newarray .int, 2) := by decide +kernel
theorem dX2_init_52 : decode cX2_init 52 = .ok (.putfield 27, 3) := by decide +kernel
theorem dX2_init_55 : decode cX2_init 55 = .ok (.aload_n 0, 1) := by decide +kernel
theorem dX2_init_56 : decode cX2_init 56 = .ok (.iconst 5, 1) := by decide +kernel
theorem dX2_init_57 : decode cX2_init 57 = .ok (.newarray .int, 2) := by decide +kernel
theorem dX2_init_59 : decode cX2_init 59 = .ok (.putfield 30, 3) := by decide +kernel
theorem dX2_init_62 : decode cX2_init 62 = .ok (.aload_n 0, 1) := by decide +kernel
theorem dX2_init_63 : decode cX2_init 63 = .ok (.iconst 5, 1) := by decide +kernel
theorem dX2_init_64 : decode cX2_init 64 = .ok (.newarray .int, 2) := by decide +kernel
theorem dX2_init_66 : decode cX2_init 66 = .ok (.putfield 33, 3) := by decide +kernel
theorem dX2_init_69 : decode cX2_init 69 = .ok (.return_, 1) := by decide +kernel
theorem dX2_run_0 : decode cX2_run 0 = .ok (.aload_n 0, 1) := by decide +kernel
theorem dX2_run_1 : decode cX2_run 1 = .ok (.aload_n 1, 1) := by decide +kernel
theorem dX2_run_2 : decode cX2_run 2 = .ok (.iload_n 2, 1) := by decide +kernel
theorem dX2_run_3 : decode cX2_run 3 = .ok (.invokevirtual 36, 3) := by decide +kernel
theorem dX2_run_6 : decode cX2_run 6 = .ok (.iconst 0, 1) := by decide +kernel
theorem dX2_run_7 : decode cX2_run 7 = .ok (.istore_n 3, 1) := by decide +kernel
theorem dX2_run_8 : decode cX2_run 8 = .ok (.iload_n 3, 1) := by decide +kernel
theorem dX2_run_9 : decode cX2_run 9 = .ok (.sipush 600, 3) := by decide +kernel
theorem dX2_run_12 : decode cX2_run 12 = .ok (.if_icmp .ge 58, 3) := by decide +kernel
theorem dX2_run_15 : decode cX2_run 15 = .ok (.aload_n 0, 1) := by decide +kernel
theorem dX2_run_16 : decode cX2_run 16 = .ok (.aload_n 1, 1) := by decide +kernel
theorem dX2_run_17 : decode cX2_run 17 = .ok (.invokevirtual 40, 3) := by decide +kernel
theorem dX2_run_20 : decode cX2_run 20 = .ok (.istore 4, 2) := by decide +kernel
theorem dX2_run_22 : decode cX2_run 22 = .ok (.iload 4, 2) := by decide +kernel
theorem dX2_run_24 : decode cX2_run 24 = .ok (.ldc 44, 2) := by decide +kernel
theorem dX2_run_26 : decode cX2_run 26 = .ok (.if_icmp .ne 4, 3) := by decide +kernel
theorem dX2_run_29 : decode cX2_run 29 = .ok (.return_, 1) := by decide +kernel
theorem dX2_run_30 : decode cX2_run 30 = .ok (.aload_n 0, 1) := by decide +kernel
theorem dX2_run_31 : decode cX2_run 31 = .ok (.aload_n 1, 1) := by decide +kernel
theorem dX2_run_32 : decode cX2_run 32 = .ok (.iload 4, 2) := by decide +kernel
theorem dX2_run_34 : decode cX2_run 34 = .ok (.invokevirtual 45, 3) := by decide +kernel
theorem dX2_run_37 : decode cX2_run 37 = .ok (.iconst 0, 1) := by decide +kernel
theorem dX2_run_38 : decode cX2_run 38 = .ok (.istore 5, 2) := by decide +kernel
theorem dX2_run_40 : decode cX2_run 40 = .ok (.iload 5, 2) := by decide +kernel
theorem dX2_run_42 : decode cX2_run 42 = .ok (.aload_n 1, 1) := by decide +kernel
theorem dX2_run_43 : decode cX2_run 43 = .ok (.getfield 48, 3) := by decide +kernel
theorem dX2_run_46 : decode cX2_run 46 = .ok (.if_icmp .ge 18, 3) := by decide +kernel
theorem dX2_run_49 : decode cX2_run 49 = .ok (.aload_n 0, 1) := by decide +kernel
theorem dX2_run_50 : decode cX2_run 50 = .ok (.aload_n 1, 1) := by decide +kernel
theorem dX2_run_51 : decode cX2_run 51 = .ok (.iload 5, 2) := by decide +kernel
theorem dX2_run_53 : decode cX2_run 53 = .ok (.iload 4, 2) := by decide +kernel
theorem dX2_run_55 : decode cX2_run 55 = .ok (.invokevirtual 54, 3) := by decide +kernel
theorem dX2_run_58 : decode cX2_run 58 = .ok (.iinc 5 1, 3) := by decide +kernel
theorem dX2_run_61 : decode cX2_run 61 = .ok (.goto (-21), 3) := by decide +kernel
theorem dX2_run_64 : decode cX2_run 64 = .ok (.iinc 3 1, 3) := by decide +kernel
theorem dX2_run_67 : decode cX2_run 67 = .ok (.goto (-59), 3) := by decide +kernel
theorem dX2_run_70 : decode cX2_run 70 = .ok (.return_, 1) := by decide +kernel
theorem dX2_sumOfTimes_0 : decode cX2_sumOfTimes 0 = .ok (.lconst 0, 1) := by decide +kernel
theorem dX2_sumOfTimes_1 : decode cX2_sumOfTimes 1 = .ok (.lstore_n 2, 1) := by decide +kernel
theorem dX2_sumOfTimes_2 : decode cX2_sumOfTimes 2 = .ok (.iconst 0, 1) := by decide +kernel
theorem dX2_sumOfTimes_3 : decode cX2_sumOfTimes 3 = .ok (.istore 4, 2) := by decide +kernel
theorem dX2_sumOfTimes_5 : decode cX2_sumOfTimes 5 = .ok (.iload 4, 2) := by decide +kernel
theorem dX2_sumOfTimes_7 : decode cX2_sumOfTimes 7 = .ok (.aload_n 1, 1) := by decide +kernel
theorem dX2_sumOfTimes_8 : decode cX2_sumOfTimes 8 = .ok (.getfield 58, 3) := by decide +kernel
theorem dX2_sumOfTimes_11 : decode cX2_sumOfTimes 11 = .ok (.if_icmp .ge 32, 3) := by decide +kernel
theorem dX2_sumOfTimes_14 : decode cX2_sumOfTimes 14 = .ok (.lload_n 2, 1) := by decide +kernel
theorem dX2_sumOfTimes_15 : decode cX2_sumOfTimes 15 = .ok (.aload_n 0, 1) := by decide +kernel
theorem dX2_sumOfTimes_16 : decode cX2_sumOfTimes 16 = .ok (.getfield 18, 3) := by decide +kernel
theorem dX2_sumOfTimes_19 : decode cX2_sumOfTimes 19 = .ok (.aload_n 1, 1) := by decide +kernel
theorem dX2_sumOfTimes_20 : decode cX2_sumOfTimes 20 = .ok (.iload 4, 2) := by decide +kernel
theorem dX2_sumOfTimes_22 : decode cX2_sumOfTimes 22 = .ok (.invokevirtual 61, 3) := by decide +kernel
theorem dX2_sumOfTimes_25 : decode cX2_sumOfTimes 25 = .ok (.iaload, 1) := by decide +kernel
theorem dX2_sumOfTimes_26 : decode cX2_sumOfTimes 26 = .ok (.aload_n 1, 1) := by decide +kernel
theorem dX2_sumOfTimes_27 : decode cX2_sumOfTimes 27 = .ok (.getfield 65, 3) := by decide +kernel
theorem dX2_sumOfTimes_30 : decode cX2_sumOfTimes 30 = .ok (.iload 4, 2) := by decide +kernel
theorem dX2_sumOfTimes_32 : decode cX2_sumOfTimes 32 = .ok (.iaload, 1) := by decide +kernel
theorem dX2_sumOfTimes_33 : decode cX2_sumOfTimes 33 = .ok (.isub, 1) := by decide +kernel
theorem dX2_sumOfTimes_34 : decode cX2_sumOfTimes 34 = .ok (.i2l, 1) := by decide +kernel
theorem dX2_sumOfTimes_35 : decode cX2_sumOfTimes 35 = .ok (.ladd, 1) := by decide +kernel
theorem dX2_sumOfTimes_36 : decode cX2_sumOfTimes 36 = .ok (.lstore_n 2, 1) := by decide +kernel
theorem dX2_sumOfTimes_37 : decode cX2_sumOfTimes 37 = .ok (.iinc 4 1, 3) := by decide +kernel
theorem dX2_sumOfTimes_40 : decode cX2_sumOfTimes 40 = .ok (.goto (-35), 3) := by decide +kernel
theorem dX2_sumOfTimes_43 : decode cX2_sumOfTimes 43 = .ok (.lload_n 2, 1) := by decide +kernel
theorem dX2_sumOfTimes_44 : decode cX2_sumOfTimes 44 = .ok (.lreturn, 1) := by decide +kernel
theorem dX2_end_0 : decode cX2_end 0 = .ok (.iconst 0, 1) := by decide +kernel
theorem dX2_end_1 : decode cX2_end 1 = .ok (.istore_n 2, 1) := by decide +kernel
theorem dX2_end_2 : decode cX2_end 2 = .ok (.iconst 0, 1) := by decide +kernel
theorem dX2_end_3 : decode cX2_end 3 = .ok (.istore_n 3, 1) := by decide +kernel
theorem dX2_end_4 : decode cX2_end 4 = .ok (.iload_n 3, 1) := by decide +kernel
theorem dX2_end_5 : decode cX2_end 5 = .ok (.aload_n 1, 1) := by decide +kernel
theorem dX2_end_6 : decode cX2_end 6 = .ok (.getfield 58, 3) := by decide +kernel
theorem dX2_end_9 : decode cX2_end 9 = .ok (.if_icmp .ge 24, 3) := by decide +kernel
theorem dX2_end_12 : decode cX2_end 12 = .ok (.iload_n 2, 1) := by decide +kernel
theorem dX2_end_13 : decode cX2_end 13 = .ok (.aload_n 0, 1) := by decide +kernel
theorem dX2_end_14 : decode cX2_end 14 = .ok (.getfield 18, 3) := by decide +kernel
theorem dX2_end_17 : decode cX2_end 17 = .ok (.aload_n 1, 1) := by decide +kernel
theorem dX2_end_18 : decode cX2_end 18 = .ok (.iload_n 3, 1) := by decide +kernel
theorem dX2_end_19 : decode cX2_end 19 = .ok (.invokevirtual 61, 3) := by decide +kernel
theorem dX2_end_22 : decode cX2_end 22 = .ok (.iaload, 1) := by decide +kernel
theorem dX2_end_23 : decode cX2_end 23 = .ok (.invokestatic 68, 3) := by decide +kernel
theorem dX2_end_26 : decode cX2_end 26 = .ok (.istore_n 2, 1) := by decide +kernel
theorem dX2_end_27 : decode cX2_end 27 = .ok (.iinc 3 1, 3) := by decide +kernel
theorem dX2_end_30 : decode cX2_end 30 = .ok (.goto (-26), 3) := by decide +kernel
theorem dX2_end_33 : decode cX2_end 33 = .ok (.iload_n 2, 1) := by decide +kernel
theorem dX2_end_34 : decode cX2_end 34 = .ok (.ireturn, 1) := by decide +kernel
theorem dX2_open_0 : decode cX2_open 0 = .ok (.iconst 0, 1) := by decide +kernel
theorem dX2_open_1 : decode cX2_open 1 = .ok (.istore_n 3, 1) := by decide +kernel
theorem dX2_open_2 : decode cX2_open 2 = .ok (.iload_n 3, 1) := by decide +kernel
theorem dX2_open_3 : decode cX2_open 3 = .ok (.aload_n 1, 1) := by decide +kernel
theorem dX2_open_4 : decode cX2_open 4 = .ok (.getfield 48, 3) := by decide +kernel
theorem dX2_open_7 : decode cX2_open 7 = .ok (.if_icmp .ge 44, 3) := by decide +kernel
theorem dX2_open_10 : decode cX2_open 10 = .ok (.aload_n 0, 1) := by decide +kernel
theorem dX2_open_11 : decode cX2_open 11 = .ok (.getfield 30, 3) := by decide +kernel
theorem dX2_open_14 : decode cX2_open 14 = .ok (.iload_n 3, 1) := by decide +kernel
theorem dX2_open_15 : decode cX2_open 15 = .ok (.iload_n 3, 1) := by decide +kernel
theorem dX2_open_16 : decode cX2_open 16 = .ok (.iload_n 2, 1) := by decide +kernel
theorem dX2_open_17 : decode cX2_open 17 = .ok (.if_icmp .ne 14, 3) := by decide +kernel
theorem dX2_open_20 : decode cX2_open 20 = .ok (.aload_n 1, 1) := by decide +kernel
theorem dX2_open_21 : decode cX2_open 21 = .ok (.getfield 74, 3) := by decide +kernel
theorem dX2_open_24 : decode cX2_open 24 = .ok (.iload_n 3, 1) := by decide +kernel
theorem dX2_open_25 : decode cX2_open 25 = .ok (.iaload, 1) := by decide +kernel
theorem dX2_open_26 : decode cX2_open 26 = .ok (.iconst 1, 1) := by decide +kernel
theorem dX2_open_27 : decode cX2_open 27 = .ok (.iadd, 1) := by decide +kernel
theorem dX2_open_28 : decode cX2_open 28 = .ok (.goto 9, 3) := by decide +kernel
theorem dX2_open_31 : decode cX2_open 31 = .ok (.aload_n 1, 1) := by decide +kernel
theorem dX2_open_32 : decode cX2_open 32 = .ok (.getfield 74, 3) := by decide +kernel
theorem dX2_open_35 : decode cX2_open 35 = .ok (.iload_n 3, 1) := by decide +kernel
theorem dX2_open_36 : decode cX2_open 36 = .ok (.iaload, 1) := by decide +kernel
theorem dX2_open_37 : decode cX2_open 37 = .ok (.iastore, 1) := by decide +kernel
theorem dX2_open_38 : decode cX2_open 38 = .ok (.aload_n 0, 1) := by decide +kernel
theorem dX2_open_39 : decode cX2_open 39 = .ok (.getfield 33, 3) := by decide +kernel
theorem dX2_open_42 : decode cX2_open 42 = .ok (.iload_n 3, 1) := by decide +kernel
theorem dX2_open_43 : decode cX2_open 43 = .ok (.iconst 0, 1) := by decide +kernel
theorem dX2_open_44 : decode cX2_open 44 = .ok (.iastore, 1) := by decide +kernel
theorem dX2_open_45 : decode cX2_open 45 = .ok (.iinc 3 1, 3) := by decide +kernel
theorem dX2_open_48 : decode cX2_open 48 = .ok (.goto (-46), 3) := by decide +kernel
theorem dX2_open_51 : decode cX2_open 51 = .ok (.iconst 0, 1) := by decide +kernel
theorem dX2_open_52 : decode cX2_open 52 = .ok (.istore_n 3, 1) := by decide +kernel
theorem dX2_open_53 : decode cX2_open 53 = .ok (.iload_n 3, 1) := by decide +kernel
theorem dX2_open_54 : decode cX2_open 54 = .ok (.aload_n 1, 1) := by decide +kernel
theorem dX2_open_55 : decode cX2_open 55 = .ok (.getfield 58, 3) := by decide +kernel
theorem dX2_open_58 : decode cX2_open 58 = .ok (.if_icmp .ge 39, 3) := by decide +kernel
theorem dX2_open_61 : decode cX2_open 61 = .ok (.aload_n 0, 1) := by decide +kernel
theorem dX2_open_62 : decode cX2_open 62 = .ok (.getfield 21, 3) := by decide +kernel
theorem dX2_open_65 : decode cX2_open 65 = .ok (.iload_n 3, 1) := by decide +kernel
theorem dX2_open_66 : decode cX2_open 66 = .ok (.iconst 0, 1) := by decide +kernel
theorem dX2_open_67 : decode cX2_open 67 = .ok (.iastore, 1) := by decide +kernel
theorem dX2_open_68 : decode cX2_open 68 = .ok (.aload_n 0, 1) := by decide +kernel
theorem dX2_open_69 : decode cX2_open 69 = .ok (.getfield 24, 3) := by decide +kernel
theorem dX2_open_72 : decode cX2_open 72 = .ok (.iload_n 3, 1) := by decide +kernel
theorem dX2_open_73 : decode cX2_open 73 = .ok (.aload_n 1, 1) := by decide +kernel
theorem dX2_open_74 : decode cX2_open 74 = .ok (.iload_n 3, 1) := by decide +kernel
theorem dX2_open_75 : decode cX2_open 75 = .ok (.invokevirtual 77, 3) := by decide +kernel
theorem dX2_open_78 : decode cX2_open 78 = .ok (.iastore, 1) := by decide +kernel
theorem dX2_open_79 : decode cX2_open 79 = .ok (.aload_n 0, 1) := by decide +kernel
theorem dX2_open_80 : decode cX2_open 80 = .ok (.getfield 27, 3) := by decide +kernel
theorem dX2_open_83 : decode cX2_open 83 = .ok (.iload_n 3, 1) := by decide +kernel
theorem dX2_open_84 : decode cX2_open 84 = .ok (.aload_n 1, 1) := by decide +kernel
theorem dX2_open_85 : decode cX2_open 85 = .ok (.getfield 65, 3) := by decide +kernel
theorem dX2_open_88 : decode cX2_open 88 = .ok (.iload_n 3, 1) := by decide +kernel
theorem dX2_open_89 : decode cX2_open 89 = .ok (.iaload, 1) := by decide +kernel
theorem dX2_open_90 : decode cX2_open 90 = .ok (.iastore, 1) := by decide +kernel
theorem dX2_open_91 : decode cX2_open 91 = .ok (.iinc 3 1, 3) := by decide +kernel
theorem dX2_open_94 : decode cX2_open 94 = .ok (.goto (-41), 3) := by decide +kernel
theorem dX2_open_97 : decode cX2_open 97 = .ok (.return_, 1) := by decide +kernel
theorem dX2_nextTick_0 : decode cX2_nextTick 0 = .ok (.ldc 44, 2) := by decide +kernel
theorem dX2_nextTick_2 : decode cX2_nextTick 2 = .ok (.istore_n 2, 1) := by decide +kernel
theorem dX2_nextTick_3 : decode cX2_nextTick 3 = .ok (.iconst 0, 1) := by decide +kernel
theorem dX2_nextTick_4 : decode cX2_nextTick 4 = .ok (.istore_n 3, 1) := by decide +kernel
theorem dX2_nextTick_5 : decode cX2_nextTick 5 = .ok (.iload_n 3, 1) := by decide +kernel
theorem dX2_nextTick_6 : decode cX2_nextTick 6 = .ok (.aload_n 1, 1) := by decide +kernel
theorem dX2_nextTick_7 : decode cX2_nextTick 7 = .ok (.getfield 58, 3) := by decide +kernel
theorem dX2_nextTick_10 : decode cX2_nextTick 10 = .ok (.if_icmp .ge 20, 3) := by decide +kernel
theorem dX2_nextTick_13 : decode cX2_nextTick 13 = .ok (.iload_n 2, 1) := by decide +kernel
theorem dX2_nextTick_14 : decode cX2_nextTick 14 = .ok (.aload_n 0, 1) := by decide +kernel
theorem dX2_nextTick_15 : decode cX2_nextTick 15 = .ok (.getfield 27, 3) := by decide +kernel
theorem dX2_nextTick_18 : decode cX2_nextTick 18 = .ok (.iload_n 3, 1) := by decide +kernel
theorem dX2_nextTick_19 : decode cX2_nextTick 19 = .ok (.iaload, 1) := by decide +kernel
theorem dX2_nextTick_20 : decode cX2_nextTick 20 = .ok (.invokestatic 80, 3) := by decide +kernel
theorem dX2_nextTick_23 : decode cX2_nextTick 23 = .ok (.istore_n 2, 1) := by decide +kernel
theorem dX2_nextTick_24 : decode cX2_nextTick 24 = .ok (.iinc 3 1, 3) := by decide +kernel
theorem dX2_nextTick_27 : decode cX2_nextTick 27 = .ok (.goto (-22), 3) := by decide +kernel
theorem dX2_nextTick_30 : decode cX2_nextTick 30 = .ok (.iload_n 2, 1) := by decide +kernel
theorem dX2_nextTick_31 : decode cX2_nextTick 31 = .ok (.ireturn, 1) := by decide +kernel
theorem dX2_advance_0 : decode cX2_advance 0 = .ok (.iconst 0, 1) := by decide +kernel
theorem dX2_advance_1 : decode cX2_advance 1 = .ok (.istore_n 3, 1) := by decide +kernel
theorem dX2_advance_2 : decode cX2_advance 2 = .ok (.iload_n 3, 1) := by decide +kernel
theorem dX2_advance_3 : decode cX2_advance 3 = .ok (.aload_n 1, 1) := by decide +kernel
theorem dX2_advance_4 : decode cX2_advance 4 = .ok (.getfield 58, 3) := by decide +kernel
theorem dX2_advance_7 : decode cX2_advance 7 = .ok (.if_icmp .ge 46, 3) := by decide +kernel
theorem dX2_advance_10 : decode cX2_advance 10 = .ok (.aload_n 0, 1) := by decide +kernel
theorem dX2_advance_11 : decode cX2_advance 11 = .ok (.getfield 27, 3) := by decide +kernel
theorem dX2_advance_14 : decode cX2_advance 14 = .ok (.iload_n 3, 1) := by decide +kernel
theorem dX2_advance_15 : decode cX2_advance 15 = .ok (.iaload, 1) := by decide +kernel
theorem dX2_advance_16 : decode cX2_advance 16 = .ok (.iload_n 2, 1) := by decide +kernel
theorem dX2_advance_17 : decode cX2_advance 17 = .ok (.if_icmp .ne 30, 3) := by decide +kernel
theorem dX2_advance_20 : decode cX2_advance 20 = .ok (.aload_n 0, 1) := by decide +kernel
theorem dX2_advance_21 : decode cX2_advance 21 = .ok (.getfield 21, 3) := by decide +kernel
theorem dX2_advance_24 : decode cX2_advance 24 = .ok (.iload_n 3, 1) := by decide +kernel
theorem dX2_advance_25 : decode cX2_advance 25 = .ok (.iaload, 1) := by decide +kernel
theorem dX2_advance_26 : decode cX2_advance 26 = .ok (.iconst 2, 1) := by decide +kernel
theorem dX2_advance_27 : decode cX2_advance 27 = .ok (.if_icmp .ne 13, 3) := by decide +kernel
theorem dX2_advance_30 : decode cX2_advance 30 = .ok (.aload_n 0, 1) := by decide +kernel
theorem dX2_advance_31 : decode cX2_advance 31 = .ok (.aload_n 1, 1) := by decide +kernel
theorem dX2_advance_32 : decode cX2_advance 32 = .ok (.iload_n 3, 1) := by decide +kernel
theorem dX2_advance_33 : decode cX2_advance 33 = .ok (.iload_n 2, 1) := by decide +kernel
theorem dX2_advance_34 : decode cX2_advance 34 = .ok (.invokevirtual 83, 3) := by decide +kernel
theorem dX2_advance_37 : decode cX2_advance 37 = .ok (.goto 10, 3) := by decide +kernel
theorem dX2_advance_40 : decode cX2_advance 40 = .ok (.aload_n 0, 1) := by decide +kernel
theorem dX2_advance_41 : decode cX2_advance 41 = .ok (.aload_n 1, 1) := by decide +kernel
theorem dX2_advance_42 : decode cX2_advance 42 = .ok (.iload_n 3, 1) := by decide +kernel
theorem dX2_advance_43 : decode cX2_advance 43 = .ok (.iload_n 2, 1) := by decide +kernel
theorem dX2_advance_44 : decode cX2_advance 44 = .ok (.invokevirtual 86, 3) := by decide +kernel
theorem dX2_advance_47 : decode cX2_advance 47 = .ok (.iinc 3 1, 3) := by decide +kernel
theorem dX2_advance_50 : decode cX2_advance 50 = .ok (.goto (-48), 3) := by decide +kernel
theorem dX2_advance_53 : decode cX2_advance 53 = .ok (.return_, 1) := by decide +kernel
theorem dX2_finish_0 : decode cX2_finish 0 = .ok (.aload_n 0, 1) := by decide +kernel
theorem dX2_finish_1 : decode cX2_finish 1 = .ok (.getfield 24, 3) := by decide +kernel
theorem dX2_finish_4 : decode cX2_finish 4 = .ok (.iload_n 2, 1) := by decide +kernel
theorem dX2_finish_5 : decode cX2_finish 5 = .ok (.iaload, 1) := by decide +kernel
theorem dX2_finish_6 : decode cX2_finish 6 = .ok (.istore 4, 2) := by decide +kernel
theorem dX2_finish_8 : decode cX2_finish 8 = .ok (.aload_n 1, 1) := by decide +kernel
theorem dX2_finish_9 : decode cX2_finish 9 = .ok (.getfield 89, 3) := by decide +kernel
theorem dX2_finish_12 : decode cX2_finish 12 = .ok (.iload 4, 2) := by decide +kernel
theorem dX2_finish_14 : decode cX2_finish 14 = .ok (.iaload, 1) := by decide +kernel
theorem dX2_finish_15 : decode cX2_finish 15 = .ok (.istore 5, 2) := by decide +kernel
theorem dX2_finish_17 : decode cX2_finish 17 = .ok (.aload_n 0, 1) := by decide +kernel
theorem dX2_finish_18 : decode cX2_finish 18 = .ok (.getfield 30, 3) := by decide +kernel
theorem dX2_finish_21 : decode cX2_finish 21 = .ok (.iload 5, 2) := by decide +kernel
theorem dX2_finish_23 : decode cX2_finish 23 = .ok (.dup2, 1) := by decide +kernel
theorem dX2_finish_24 : decode cX2_finish 24 = .ok (.iaload, 1) := by decide +kernel
theorem dX2_finish_25 : decode cX2_finish 25 = .ok (.iconst 1, 1) := by decide +kernel
theorem dX2_finish_26 : decode cX2_finish 26 = .ok (.iadd, 1) := by decide +kernel
theorem dX2_finish_27 : decode cX2_finish 27 = .ok (.iastore, 1) := by decide +kernel
theorem dX2_finish_28 : decode cX2_finish 28 = .ok (.iload 4, 2) := by decide +kernel
theorem dX2_finish_30 : decode cX2_finish 30 = .ok (.aload_n 1, 1) := by decide +kernel
theorem dX2_finish_31 : decode cX2_finish 31 = .ok (.iload_n 2, 1) := by decide +kernel
theorem dX2_finish_32 : decode cX2_finish 32 = .ok (.invokevirtual 61, 3) := by decide +kernel
theorem dX2_finish_35 : decode cX2_finish 35 = .ok (.if_icmp .ne 19, 3) := by decide +kernel
theorem dX2_finish_38 : decode cX2_finish 38 = .ok (.aload_n 0, 1) := by decide +kernel
theorem dX2_finish_39 : decode cX2_finish 39 = .ok (.getfield 21, 3) := by decide +kernel
theorem dX2_finish_42 : decode cX2_finish 42 = .ok (.iload_n 2, 1) := by decide +kernel
theorem dX2_finish_43 : decode cX2_finish 43 = .ok (.iconst 3, 1) := by decide +kernel
theorem dX2_finish_44 : decode cX2_finish 44 = .ok (.iastore, 1) := by decide +kernel
theorem dX2_finish_45 : decode cX2_finish 45 = .ok (.aload_n 0, 1) := by decide +kernel
theorem dX2_finish_46 : decode cX2_finish 46 = .ok (.getfield 27, 3) := by decide +kernel
theorem dX2_finish_49 : decode cX2_finish 49 = .ok (.iload_n 2, 1) := by decide +kernel
theorem dX2_finish_50 : decode cX2_finish 50 = .ok (.ldc 44, 2) := by decide +kernel
theorem dX2_finish_52 : decode cX2_finish 52 = .ok (.iastore, 1) := by decide +kernel
theorem dX2_finish_53 : decode cX2_finish 53 = .ok (.return_, 1) := by decide +kernel
theorem dX2_finish_54 : decode cX2_finish 54 = .ok (.aload_n 0, 1) := by decide +kernel
theorem dX2_finish_55 : decode cX2_finish 55 = .ok (.getfield 24, 3) := by decide +kernel
theorem dX2_finish_58 : decode cX2_finish 58 = .ok (.iload_n 2, 1) := by decide +kernel
theorem dX2_finish_59 : decode cX2_finish 59 = .ok (.iload 4, 2) := by decide +kernel
theorem dX2_finish_61 : decode cX2_finish 61 = .ok (.iconst 1, 1) := by decide +kernel
theorem dX2_finish_62 : decode cX2_finish 62 = .ok (.iadd, 1) := by decide +kernel
theorem dX2_finish_63 : decode cX2_finish 63 = .ok (.iastore, 1) := by decide +kernel
theorem dX2_finish_64 : decode cX2_finish 64 = .ok (.aload_n 0, 1) := by decide +kernel
theorem dX2_finish_65 : decode cX2_finish 65 = .ok (.getfield 21, 3) := by decide +kernel
theorem dX2_finish_68 : decode cX2_finish 68 = .ok (.iload_n 2, 1) := by decide +kernel
theorem dX2_finish_69 : decode cX2_finish 69 = .ok (.iconst 0, 1) := by decide +kernel
theorem dX2_finish_70 : decode cX2_finish 70 = .ok (.iastore, 1) := by decide +kernel
theorem dX2_finish_71 : decode cX2_finish 71 = .ok (.aload_n 0, 1) := by decide +kernel
theorem dX2_finish_72 : decode cX2_finish 72 = .ok (.getfield 27, 3) := by decide +kernel
theorem dX2_finish_75 : decode cX2_finish 75 = .ok (.iload_n 2, 1) := by decide +kernel
theorem dX2_finish_76 : decode cX2_finish 76 = .ok (.iload_n 3, 1) := by decide +kernel
theorem dX2_finish_77 : decode cX2_finish 77 = .ok (.aload_n 1, 1) := by decide +kernel
theorem dX2_finish_78 : decode cX2_finish 78 = .ok (.getfield 92, 3) := by decide +kernel
theorem dX2_finish_81 : decode cX2_finish 81 = .ok (.iload 5, 2) := by decide +kernel
theorem dX2_finish_83 : decode cX2_finish 83 = .ok (.iaload, 1) := by decide +kernel
theorem dX2_finish_84 : decode cX2_finish 84 = .ok (.iadd, 1) := by decide +kernel
theorem dX2_finish_85 : decode cX2_finish 85 = .ok (.iastore, 1) := by decide +kernel
theorem dX2_finish_86 : decode cX2_finish 86 = .ok (.aload_n 1, 1) := by decide +kernel
theorem dX2_finish_87 : decode cX2_finish 87 = .ok (.getfield 92, 3) := by decide +kernel
theorem dX2_finish_90 : decode cX2_finish 90 = .ok (.iload 5, 2) := by decide +kernel
theorem dX2_finish_92 : decode cX2_finish 92 = .ok (.iaload, 1) := by decide +kernel
theorem dX2_finish_93 : decode cX2_finish 93 = .ok (.ifCond .ne 10, 3) := by decide +kernel
theorem dX2_finish_96 : decode cX2_finish 96 = .ok (.aload_n 0, 1) := by decide +kernel
theorem dX2_finish_97 : decode cX2_finish 97 = .ok (.aload_n 1, 1) := by decide +kernel
theorem dX2_finish_98 : decode cX2_finish 98 = .ok (.iload_n 2, 1) := by decide +kernel
theorem dX2_finish_99 : decode cX2_finish 99 = .ok (.iload_n 3, 1) := by decide +kernel
theorem dX2_finish_100 : decode cX2_finish 100 = .ok (.invokevirtual 86, 3) := by decide +kernel
theorem dX2_finish_103 : decode cX2_finish 103 = .ok (.return_, 1) := by decide +kernel
theorem dX2_arrive_0 : decode cX2_arrive 0 = .ok (.aload_n 0, 1) := by decide +kernel
theorem dX2_arrive_1 : decode cX2_arrive 1 = .ok (.getfield 24, 3) := by decide +kernel
theorem dX2_arrive_4 : decode cX2_arrive 4 = .ok (.iload_n 2, 1) := by decide +kernel
theorem dX2_arrive_5 : decode cX2_arrive 5 = .ok (.iaload, 1) := by decide +kernel
theorem dX2_arrive_6 : decode cX2_arrive 6 = .ok (.istore 4, 2) := by decide +kernel
theorem dX2_arrive_8 : decode cX2_arrive 8 = .ok (.aload_n 0, 1) := by decide +kernel
theorem dX2_arrive_9 : decode cX2_arrive 9 = .ok (.getfield 9, 3) := by decide +kernel
theorem dX2_arrive_12 : decode cX2_arrive 12 = .ok (.iload 4, 2) := by decide +kernel
theorem dX2_arrive_14 : decode cX2_arrive 14 = .ok (.iload_n 3, 1) := by decide +kernel
theorem dX2_arrive_15 : decode cX2_arrive 15 = .ok (.iastore, 1) := by decide +kernel
theorem dX2_arrive_16 : decode cX2_arrive 16 = .ok (.aload_n 0, 1) := by decide +kernel
theorem dX2_arrive_17 : decode cX2_arrive 17 = .ok (.getfield 21, 3) := by decide +kernel
theorem dX2_arrive_20 : decode cX2_arrive 20 = .ok (.iload_n 2, 1) := by decide +kernel
theorem dX2_arrive_21 : decode cX2_arrive 21 = .ok (.iconst 1, 1) := by decide +kernel
theorem dX2_arrive_22 : decode cX2_arrive 22 = .ok (.iastore, 1) := by decide +kernel
theorem dX2_arrive_23 : decode cX2_arrive 23 = .ok (.aload_n 0, 1) := by decide +kernel
theorem dX2_arrive_24 : decode cX2_arrive 24 = .ok (.getfield 27, 3) := by decide +kernel
theorem dX2_arrive_27 : decode cX2_arrive 27 = .ok (.iload_n 2, 1) := by decide +kernel
theorem dX2_arrive_28 : decode cX2_arrive 28 = .ok (.ldc 44, 2) := by decide +kernel
theorem dX2_arrive_30 : decode cX2_arrive 30 = .ok (.iastore, 1) := by decide +kernel
theorem dX2_arrive_31 : decode cX2_arrive 31 = .ok (.aload_n 0, 1) := by decide +kernel
theorem dX2_arrive_32 : decode cX2_arrive 32 = .ok (.getfield 33, 3) := by decide +kernel
theorem dX2_arrive_35 : decode cX2_arrive 35 = .ok (.aload_n 1, 1) := by decide +kernel
theorem dX2_arrive_36 : decode cX2_arrive 36 = .ok (.getfield 89, 3) := by decide +kernel
theorem dX2_arrive_39 : decode cX2_arrive 39 = .ok (.iload 4, 2) := by decide +kernel
theorem dX2_arrive_41 : decode cX2_arrive 41 = .ok (.iaload, 1) := by decide +kernel
theorem dX2_arrive_42 : decode cX2_arrive 42 = .ok (.dup2, 1) := by decide +kernel
theorem dX2_arrive_43 : decode cX2_arrive 43 = .ok (.iaload, 1) := by decide +kernel
theorem dX2_arrive_44 : decode cX2_arrive 44 = .ok (.iconst 1, 1) := by decide +kernel
theorem dX2_arrive_45 : decode cX2_arrive 45 = .ok (.iadd, 1) := by decide +kernel
theorem dX2_arrive_46 : decode cX2_arrive 46 = .ok (.iastore, 1) := by decide +kernel
theorem dX2_arrive_47 : decode cX2_arrive 47 = .ok (.return_, 1) := by decide +kernel
theorem dX2_beginAt_0 : decode cX2_beginAt 0 = .ok (.iconst 0, 1) := by decide +kernel
theorem dX2_beginAt_1 : decode cX2_beginAt 1 = .ok (.istore 4, 2) := by decide +kernel
theorem dX2_beginAt_3 : decode cX2_beginAt 3 = .ok (.iload 4, 2) := by decide +kernel
theorem dX2_beginAt_5 : decode cX2_beginAt 5 = .ok (.bipush 60, 2) := by decide +kernel
theorem dX2_beginAt_7 : decode cX2_beginAt 7 = .ok (.if_icmp .ge 117, 3) := by decide +kernel
theorem dX2_beginAt_10 : decode cX2_beginAt 10 = .ok (.aload_n 0, 1) := by decide +kernel
theorem dX2_beginAt_11 : decode cX2_beginAt 11 = .ok (.getfield 30, 3) := by decide +kernel
theorem dX2_beginAt_14 : decode cX2_beginAt 14 = .ok (.iload_n 2, 1) := by decide +kernel
theorem dX2_beginAt_15 : decode cX2_beginAt 15 = .ok (.iaload, 1) := by decide +kernel
theorem dX2_beginAt_16 : decode cX2_beginAt 16 = .ok (.ifCond .le 108, 3) := by decide +kernel
theorem dX2_beginAt_19 : decode cX2_beginAt 19 = .ok (.aload_n 0, 1) := by decide +kernel
theorem dX2_beginAt_20 : decode cX2_beginAt 20 = .ok (.getfield 33, 3) := by decide +kernel
theorem dX2_beginAt_23 : decode cX2_beginAt 23 = .ok (.iload_n 2, 1) := by decide +kernel
theorem dX2_beginAt_24 : decode cX2_beginAt 24 = .ok (.iaload, 1) := by decide +kernel
theorem dX2_beginAt_25 : decode cX2_beginAt 25 = .ok (.ifCond .le 99, 3) := by decide +kernel
theorem dX2_beginAt_28 : decode cX2_beginAt 28 = .ok (.aload_n 0, 1) := by decide +kernel
theorem dX2_beginAt_29 : decode cX2_beginAt 29 = .ok (.aload_n 1, 1) := by decide +kernel
theorem dX2_beginAt_30 : decode cX2_beginAt 30 = .ok (.iload_n 2, 1) := by decide +kernel
theorem dX2_beginAt_31 : decode cX2_beginAt 31 = .ok (.invokevirtual 95, 3) := by decide +kernel
theorem dX2_beginAt_34 : decode cX2_beginAt 34 = .ok (.istore 5, 2) := by decide +kernel
theorem dX2_beginAt_36 : decode cX2_beginAt 36 = .ok (.iload 5, 2) := by decide +kernel
theorem dX2_beginAt_38 : decode cX2_beginAt 38 = .ok (.iconst (-1), 1) := by decide +kernel
theorem dX2_beginAt_39 : decode cX2_beginAt 39 = .ok (.if_icmp .ne 4, 3) := by decide +kernel
theorem dX2_beginAt_42 : decode cX2_beginAt 42 = .ok (.return_, 1) := by decide +kernel
theorem dX2_beginAt_43 : decode cX2_beginAt 43 = .ok (.aload_n 0, 1) := by decide +kernel
theorem dX2_beginAt_44 : decode cX2_beginAt 44 = .ok (.getfield 24, 3) := by decide +kernel
theorem dX2_beginAt_47 : decode cX2_beginAt 47 = .ok (.iload 5, 2) := by decide +kernel
theorem dX2_beginAt_49 : decode cX2_beginAt 49 = .ok (.iaload, 1) := by decide +kernel
theorem dX2_beginAt_50 : decode cX2_beginAt 50 = .ok (.istore 6, 2) := by decide +kernel
theorem dX2_beginAt_52 : decode cX2_beginAt 52 = .ok (.aload_n 0, 1) := by decide +kernel
theorem dX2_beginAt_53 : decode cX2_beginAt 53 = .ok (.getfield 15, 3) := by decide +kernel
theorem dX2_beginAt_56 : decode cX2_beginAt 56 = .ok (.iload 6, 2) := by decide +kernel
theorem dX2_beginAt_58 : decode cX2_beginAt 58 = .ok (.iload_n 3, 1) := by decide +kernel
theorem dX2_beginAt_59 : decode cX2_beginAt 59 = .ok (.iastore, 1) := by decide +kernel
theorem dX2_beginAt_60 : decode cX2_beginAt 60 = .ok (.aload_n 0, 1) := by decide +kernel
theorem dX2_beginAt_61 : decode cX2_beginAt 61 = .ok (.getfield 18, 3) := by decide +kernel
theorem dX2_beginAt_64 : decode cX2_beginAt 64 = .ok (.iload 6, 2) := by decide +kernel
theorem dX2_beginAt_66 : decode cX2_beginAt 66 = .ok (.iload_n 3, 1) := by decide +kernel
theorem dX2_beginAt_67 : decode cX2_beginAt 67 = .ok (.aload_n 1, 1) := by decide +kernel
theorem dX2_beginAt_68 : decode cX2_beginAt 68 = .ok (.getfield 99, 3) := by decide +kernel
theorem dX2_beginAt_71 : decode cX2_beginAt 71 = .ok (.iload 6, 2) := by decide +kernel
theorem dX2_beginAt_73 : decode cX2_beginAt 73 = .ok (.iaload, 1) := by decide +kernel
theorem dX2_beginAt_74 : decode cX2_beginAt 74 = .ok (.iadd, 1) := by decide +kernel
theorem dX2_beginAt_75 : decode cX2_beginAt 75 = .ok (.iastore, 1) := by decide +kernel
theorem dX2_beginAt_76 : decode cX2_beginAt 76 = .ok (.aload_n 0, 1) := by decide +kernel
theorem dX2_beginAt_77 : decode cX2_beginAt 77 = .ok (.getfield 21, 3) := by decide +kernel
theorem dX2_beginAt_80 : decode cX2_beginAt 80 = .ok (.iload 5, 2) := by decide +kernel
theorem dX2_beginAt_82 : decode cX2_beginAt 82 = .ok (.iconst 2, 1) := by decide +kernel
theorem dX2_beginAt_83 : decode cX2_beginAt 83 = .ok (.iastore, 1) := by decide +kernel
theorem dX2_beginAt_84 : decode cX2_beginAt 84 = .ok (.aload_n 0, 1) := by decide +kernel
theorem dX2_beginAt_85 : decode cX2_beginAt 85 = .ok (.getfield 27, 3) := by decide +kernel
theorem dX2_beginAt_88 : decode cX2_beginAt 88 = .ok (.iload 5, 2) := by decide +kernel
theorem dX2_beginAt_90 : decode cX2_beginAt 90 = .ok (.aload_n 0, 1) := by decide +kernel
theorem dX2_beginAt_91 : decode cX2_beginAt 91 = .ok (.getfield 18, 3) := by decide +kernel
theorem dX2_beginAt_94 : decode cX2_beginAt 94 = .ok (.iload 6, 2) := by decide +kernel
theorem dX2_beginAt_96 : decode cX2_beginAt 96 = .ok (.iaload, 1) := by decide +kernel
theorem dX2_beginAt_97 : decode cX2_beginAt 97 = .ok (.iastore, 1) := by decide +kernel
theorem dX2_beginAt_98 : decode cX2_beginAt 98 = .ok (.aload_n 0, 1) := by decide +kernel
theorem dX2_beginAt_99 : decode cX2_beginAt 99 = .ok (.getfield 30, 3) := by decide +kernel
theorem dX2_beginAt_102 : decode cX2_beginAt 102 = .ok (.iload_n 2, 1) := by decide +kernel
theorem dX2_beginAt_103 : decode cX2_beginAt 103 = .ok (.dup2, 1) := by decide +kernel
theorem dX2_beginAt_104 : decode cX2_beginAt 104 = .ok (.iaload, 1) := by decide +kernel
theorem dX2_beginAt_105 : decode cX2_beginAt 105 = .ok (.iconst 1, 1) := by decide +kernel
theorem dX2_beginAt_106 : decode cX2_beginAt 106 = .ok (.isub, 1) := by decide +kernel
theorem dX2_beginAt_107 : decode cX2_beginAt 107 = .ok (.iastore, 1) := by decide +kernel
theorem dX2_beginAt_108 : decode cX2_beginAt 108 = .ok (.aload_n 0, 1) := by decide +kernel
theorem dX2_beginAt_109 : decode cX2_beginAt 109 = .ok (.getfield 33, 3) := by decide +kernel
theorem dX2_beginAt_112 : decode cX2_beginAt 112 = .ok (.iload_n 2, 1) := by decide +kernel
theorem dX2_beginAt_113 : decode cX2_beginAt 113 = .ok (.dup2, 1) := by decide +kernel
theorem dX2_beginAt_114 : decode cX2_beginAt 114 = .ok (.iaload, 1) := by decide +kernel
theorem dX2_beginAt_115 : decode cX2_beginAt 115 = .ok (.iconst 1, 1) := by decide +kernel
theorem dX2_beginAt_116 : decode cX2_beginAt 116 = .ok (.isub, 1) := by decide +kernel
theorem dX2_beginAt_117 : decode cX2_beginAt 117 = .ok (.iastore, 1) := by decide +kernel
theorem dX2_beginAt_118 : decode cX2_beginAt 118 = .ok (.iinc 4 1, 3) := by decide +kernel
theorem dX2_beginAt_121 : decode cX2_beginAt 121 = .ok (.goto (-118), 3) := by decide +kernel
theorem dX2_beginAt_124 : decode cX2_beginAt 124 = .ok (.return_, 1) := by decide +kernel
theorem dX2_firstWaiting_0 : decode cX2_firstWaiting 0 = .ok (.iconst (-1), 1) := by decide +kernel
theorem dX2_firstWaiting_1 : decode cX2_firstWaiting 1 = .ok (.istore_n 3, 1) := by decide +kernel
theorem dX2_firstWaiting_2 : decode cX2_firstWaiting 2 = .ok (.lconst 0, 1) := by decide +kernel
theorem dX2_firstWaiting_3 : decode cX2_firstWaiting 3 = .ok (.lstore 4, 2) := by decide +kernel
theorem dX2_firstWaiting_5 : decode cX2_firstWaiting 5 = .ok (.iconst 0, 1) := by decide +kernel
theorem dX2_firstWaiting_6 : decode cX2_firstWaiting 6 = .ok (.istore 6, 2) := by decide +kernel
theorem dX2_firstWaiting_8 : decode cX2_firstWaiting 8 = .ok (.iload 6, 2) := by decide +kernel
theorem dX2_firstWaiting_10 : decode cX2_firstWaiting 10 = .ok (.aload_n 1, 1) := by decide +kernel
theorem dX2_firstWaiting_11 : decode cX2_firstWaiting 11 = .ok (.getfield 58, 3) := by decide +kernel
theorem dX2_firstWaiting_14 : decode cX2_firstWaiting 14 = .ok (.if_icmp .ge 92, 3) := by decide +kernel
theorem dX2_firstWaiting_17 : decode cX2_firstWaiting 17 = .ok (.aload_n 0, 1) := by decide +kernel
theorem dX2_firstWaiting_18 : decode cX2_firstWaiting 18 = .ok (.getfield 24, 3) := by decide +kernel
theorem dX2_firstWaiting_21 : decode cX2_firstWaiting 21 = .ok (.iload 6, 2) := by decide +kernel
theorem dX2_firstWaiting_23 : decode cX2_firstWaiting 23 = .ok (.iaload, 1) := by decide +kernel
theorem dX2_firstWaiting_24 : decode cX2_firstWaiting 24 = .ok (.istore 7, 2) := by decide +kernel
theorem dX2_firstWaiting_26 : decode cX2_firstWaiting 26 = .ok (.aload_n 0, 1) := by decide +kernel
theorem dX2_firstWaiting_27 : decode cX2_firstWaiting 27 = .ok (.getfield 21, 3) := by decide +kernel
theorem dX2_firstWaiting_30 : decode cX2_firstWaiting 30 = .ok (.iload 6, 2) := by decide +kernel
theorem dX2_firstWaiting_32 : decode cX2_firstWaiting 32 = .ok (.iaload, 1) := by decide +kernel
theorem dX2_firstWaiting_33 : decode cX2_firstWaiting 33 = .ok (.iconst 1, 1) := by decide +kernel
theorem dX2_firstWaiting_34 : decode cX2_firstWaiting 34 = .ok (.if_icmp .ne 66, 3) := by decide +kernel
theorem dX2_firstWaiting_37 : decode cX2_firstWaiting 37 = .ok (.aload_n 1, 1) := by decide +kernel
theorem dX2_firstWaiting_38 : decode cX2_firstWaiting 38 = .ok (.getfield 89, 3) := by decide +kernel
theorem dX2_firstWaiting_41 : decode cX2_firstWaiting 41 = .ok (.iload 7, 2) := by decide +kernel
theorem dX2_firstWaiting_43 : decode cX2_firstWaiting 43 = .ok (.iaload, 1) := by decide +kernel
theorem dX2_firstWaiting_44 : decode cX2_firstWaiting 44 = .ok (.iload_n 2, 1) := by decide +kernel
theorem dX2_firstWaiting_45 : decode cX2_firstWaiting 45 = .ok (.if_icmp .ne 55, 3) := by decide +kernel
theorem dX2_firstWaiting_48 : decode cX2_firstWaiting 48 = .ok (.aload_n 1, 1) := by decide +kernel
theorem dX2_firstWaiting_49 : decode cX2_firstWaiting 49 = .ok (.getfield 102, 3) := by decide +kernel
theorem dX2_firstWaiting_52 : decode cX2_firstWaiting 52 = .ok (.iload_n 2, 1) := by decide +kernel
theorem dX2_firstWaiting_53 : decode cX2_firstWaiting 53 = .ok (.iaload, 1) := by decide +kernel
theorem dX2_firstWaiting_54 : decode cX2_firstWaiting 54 = .ok (.aload_n 0, 1) := by decide +kernel
theorem dX2_firstWaiting_55 : decode cX2_firstWaiting 55 = .ok (.getfield 9, 3) := by decide +kernel
theorem dX2_firstWaiting_58 : decode cX2_firstWaiting 58 = .ok (.iload 7, 2) := by decide +kernel
theorem dX2_firstWaiting_60 : decode cX2_firstWaiting 60 = .ok (.iaload, 1) := by decide +kernel
theorem dX2_firstWaiting_61 : decode cX2_firstWaiting 61 = .ok (.aload_n 1, 1) := by decide +kernel
theorem dX2_firstWaiting_62 : decode cX2_firstWaiting 62 = .ok (.getfield 99, 3) := by decide +kernel
theorem dX2_firstWaiting_65 : decode cX2_firstWaiting 65 = .ok (.iload 7, 2) := by decide +kernel
theorem dX2_firstWaiting_67 : decode cX2_firstWaiting 67 = .ok (.iaload, 1) := by decide +kernel
theorem dX2_firstWaiting_68 : decode cX2_firstWaiting 68 = .ok (.aload_n 1, 1) := by decide +kernel
theorem dX2_firstWaiting_69 : decode cX2_firstWaiting 69 = .ok (.getfield 105, 3) := by decide +kernel
theorem dX2_firstWaiting_72 : decode cX2_firstWaiting 72 = .ok (.iload 6, 2) := by decide +kernel
theorem dX2_firstWaiting_74 : decode cX2_firstWaiting 74 = .ok (.iaload, 1) := by decide +kernel
theorem dX2_firstWaiting_75 : decode cX2_firstWaiting 75 = .ok (.invokestatic 108, 3) := by decide +kernel
theorem dX2_firstWaiting_78 : decode cX2_firstWaiting 78 = .ok (.lstore 8, 2) := by decide +kernel
theorem dX2_firstWaiting_80 : decode cX2_firstWaiting 80 = .ok (.iload_n 3, 1) := by decide +kernel
theorem dX2_firstWaiting_81 : decode cX2_firstWaiting 81 = .ok (.iconst (-1), 1) := by decide +kernel
theorem dX2_firstWaiting_82 : decode cX2_firstWaiting 82 = .ok (.if_icmp .eq 11, 3) := by decide +kernel
theorem dX2_firstWaiting_85 : decode cX2_firstWaiting 85 = .ok (.lload 8, 2) := by decide +kernel
theorem dX2_firstWaiting_87 : decode cX2_firstWaiting 87 = .ok (.lload 4, 2) := by decide +kernel
theorem dX2_firstWaiting_89 : decode cX2_firstWaiting 89 = .ok (.lcmp, 1) := by decide +kernel
theorem dX2_firstWaiting_90 : decode cX2_firstWaiting 90 = .ok (.ifCond .ge 10, 3) := by decide +kernel
theorem dX2_firstWaiting_93 : decode cX2_firstWaiting 93 = .ok (.iload 6, 2) := by decide +kernel
theorem dX2_firstWaiting_95 : decode cX2_firstWaiting 95 = .ok (.istore_n 3, 1) := by decide +kernel
theorem dX2_firstWaiting_96 : decode cX2_firstWaiting 96 = .ok (.lload 8, 2) := by decide +kernel
theorem dX2_firstWaiting_98 : decode cX2_firstWaiting 98 = .ok (.lstore 4, 2) := by decide +kernel
theorem dX2_firstWaiting_100 : decode cX2_firstWaiting 100 = .ok (.iinc 6 1, 3) := by decide +kernel
theorem dX2_firstWaiting_103 : decode cX2_firstWaiting 103 = .ok (.goto (-95), 3) := by decide +kernel
theorem dX2_firstWaiting_106 : decode cX2_firstWaiting 106 = .ok (.iload_n 3, 1) := by decide +kernel
theorem dX2_firstWaiting_107 : decode cX2_firstWaiting 107 = .ok (.ireturn, 1) := by decide +kernel
theorem dX3_init_0 : decode cX3_init 0 = .ok (.aload_n 0, 1) := by decide +kernel
theorem dX3_init_1 : decode cX3_init 1 = .ok (.invokespecial 3, 3) := by decide +kernel
theorem dX3_init_4 : decode cX3_init 4 = .ok (.aload_n 0, 1) := by decide +kernel
theorem dX3_init_5 : decode cX3_init 5 = .ok (.sipush 300, 3) := by decide +kernel
theorem dX3_init_8 : decode cX3_init 8 = .ok (.newarray .boolean, 2) := by decide +kernel
theorem dX3_init_10 : decode cX3_init 10 = .ok (.putfield 9, 3) := by decide +kernel
theorem dX3_init_13 : decode cX3_init 13 = .ok (.aload_n 0, 1) := by decide +kernel
theorem dX3_init_14 : decode cX3_init 14 = .ok (.sipush 300, 3) := by decide +kernel
theorem dX3_init_17 : decode cX3_init 17 = .ok (.newarray .int, 2) := by decide +kernel
theorem dX3_init_19 : decode cX3_init 19 = .ok (.putfield 15, 3) := by decide +kernel
theorem dX3_init_22 : decode cX3_init 22 = .ok (.aload_n 0, 1) := by decide +kernel
theorem dX3_init_23 : decode cX3_init 23 = .ok (.sipush 300, 3) := by decide +kernel
theorem dX3_init_26 : decode cX3_init 26 = .ok (.newarray .int, 2) := by decide +kernel
theorem dX3_init_28 : decode cX3_init 28 = .ok (.putfield 19, 3) := by decide +kernel
theorem dX3_init_31 : decode cX3_init 31 = .ok (.return_, 1) := by decide +kernel
theorem dX3_tell_0 : decode cX3_tell 0 = .ok (.aload_n 0, 1) := by decide +kernel
theorem dX3_tell_1 : decode cX3_tell 1 = .ok (.getfield 9, 3) := by decide +kernel
theorem dX3_tell_4 : decode cX3_tell 4 = .ok (.iload_n 1, 1) := by decide +kernel
theorem dX3_tell_5 : decode cX3_tell 5 = .ok (.iconst 1, 1) := by decide +kernel
theorem dX3_tell_6 : decode cX3_tell 6 = .ok (.bastore, 1) := by decide +kernel
theorem dX3_tell_7 : decode cX3_tell 7 = .ok (.aload_n 0, 1) := by decide +kernel
theorem dX3_tell_8 : decode cX3_tell 8 = .ok (.getfield 15, 3) := by decide +kernel
theorem dX3_tell_11 : decode cX3_tell 11 = .ok (.iload_n 1, 1) := by decide +kernel
theorem dX3_tell_12 : decode cX3_tell 12 = .ok (.iload_n 2, 1) := by decide +kernel
theorem dX3_tell_13 : decode cX3_tell 13 = .ok (.iastore, 1) := by decide +kernel
theorem dX3_tell_14 : decode cX3_tell 14 = .ok (.aload_n 0, 1) := by decide +kernel
theorem dX3_tell_15 : decode cX3_tell 15 = .ok (.getfield 19, 3) := by decide +kernel
theorem dX3_tell_18 : decode cX3_tell 18 = .ok (.iload_n 1, 1) := by decide +kernel
theorem dX3_tell_19 : decode cX3_tell 19 = .ok (.iload_n 3, 1) := by decide +kernel
theorem dX3_tell_20 : decode cX3_tell 20 = .ok (.iastore, 1) := by decide +kernel
theorem dX3_tell_21 : decode cX3_tell 21 = .ok (.return_, 1) := by decide +kernel
theorem dX3_size_0 : decode cX3_size 0 = .ok (.iconst 0, 1) := by decide +kernel
theorem dX3_size_1 : decode cX3_size 1 = .ok (.istore_n 2, 1) := by decide +kernel
theorem dX3_size_2 : decode cX3_size 2 = .ok (.iconst 0, 1) := by decide +kernel
theorem dX3_size_3 : decode cX3_size 3 = .ok (.istore_n 3, 1) := by decide +kernel
theorem dX3_size_4 : decode cX3_size 4 = .ok (.iload_n 3, 1) := by decide +kernel
theorem dX3_size_5 : decode cX3_size 5 = .ok (.aload_n 1, 1) := by decide +kernel
theorem dX3_size_6 : decode cX3_size 6 = .ok (.invokevirtual 22, 3) := by decide +kernel
theorem dX3_size_9 : decode cX3_size 9 = .ok (.if_icmp .ge 21, 3) := by decide +kernel
theorem dX3_size_12 : decode cX3_size 12 = .ok (.aload_n 0, 1) := by decide +kernel
theorem dX3_size_13 : decode cX3_size 13 = .ok (.getfield 9, 3) := by decide +kernel
theorem dX3_size_16 : decode cX3_size 16 = .ok (.iload_n 3, 1) := by decide +kernel
theorem dX3_size_17 : decode cX3_size 17 = .ok (.baload, 1) := by decide +kernel
theorem dX3_size_18 : decode cX3_size 18 = .ok (.ifCond .eq 6, 3) := by decide +kernel
theorem dX3_size_21 : decode cX3_size 21 = .ok (.iinc 2 1, 3) := by decide +kernel
theorem dX3_size_24 : decode cX3_size 24 = .ok (.iinc 3 1, 3) := by decide +kernel
theorem dX3_size_27 : decode cX3_size 27 = .ok (.goto (-23), 3) := by decide +kernel
theorem dX3_size_30 : decode cX3_size 30 = .ok (.iload_n 2, 1) := by decide +kernel
theorem dX3_size_31 : decode cX3_size 31 = .ok (.ireturn, 1) := by decide +kernel
theorem dX3_cameOf_0 : decode cX3_cameOf 0 = .ok (.aload_n 0, 1) := by decide +kernel
theorem dX3_cameOf_1 : decode cX3_cameOf 1 = .ok (.getfield 9, 3) := by decide +kernel
theorem dX3_cameOf_4 : decode cX3_cameOf 4 = .ok (.iload_n 2, 1) := by decide +kernel
theorem dX3_cameOf_5 : decode cX3_cameOf 5 = .ok (.baload, 1) := by decide +kernel
theorem dX3_cameOf_6 : decode cX3_cameOf 6 = .ok (.ifCond .ne 5, 3) := by decide +kernel
theorem dX3_cameOf_9 : decode cX3_cameOf 9 = .ok (.iconst (-1), 1) := by decide +kernel
theorem dX3_cameOf_10 : decode cX3_cameOf 10 = .ok (.ireturn, 1) := by decide +kernel
theorem dX3_cameOf_11 : decode cX3_cameOf 11 = .ok (.iload_n 2, 1) := by decide +kernel
theorem dX3_cameOf_12 : decode cX3_cameOf 12 = .ok (.iconst 5, 1) := by decide +kernel
theorem dX3_cameOf_13 : decode cX3_cameOf 13 = .ok (.irem, 1) := by decide +kernel
theorem dX3_cameOf_14 : decode cX3_cameOf 14 = .ok (.ifCond .ne 12, 3) := by decide +kernel
theorem dX3_cameOf_17 : decode cX3_cameOf 17 = .ok (.aload_n 1, 1) := by decide +kernel
theorem dX3_cameOf_18 : decode cX3_cameOf 18 = .ok (.getfield 28, 3) := by decide +kernel
theorem dX3_cameOf_21 : decode cX3_cameOf 21 = .ok (.iload_n 2, 1) := by decide +kernel
theorem dX3_cameOf_22 : decode cX3_cameOf 22 = .ok (.iconst 5, 1) := by decide +kernel
theorem dX3_cameOf_23 : decode cX3_cameOf 23 = .ok (.idiv, 1) := by decide +kernel
theorem dX3_cameOf_24 : decode cX3_cameOf 24 = .ok (.iaload, 1) := by decide +kernel
theorem dX3_cameOf_25 : decode cX3_cameOf 25 = .ok (.ireturn, 1) := by decide +kernel
theorem dX3_cameOf_26 : decode cX3_cameOf 26 = .ok (.iload_n 2, 1) := by decide +kernel
theorem dX3_cameOf_27 : decode cX3_cameOf 27 = .ok (.iconst 1, 1) := by decide +kernel
theorem dX3_cameOf_28 : decode cX3_cameOf 28 = .ok (.isub, 1) := by decide +kernel
theorem dX3_cameOf_29 : decode cX3_cameOf 29 = .ok (.istore_n 3, 1) := by decide +kernel
theorem dX3_cameOf_30 : decode cX3_cameOf 30 = .ok (.aload_n 0, 1) := by decide +kernel
theorem dX3_cameOf_31 : decode cX3_cameOf 31 = .ok (.getfield 9, 3) := by decide +kernel
theorem dX3_cameOf_34 : decode cX3_cameOf 34 = .ok (.iload_n 3, 1) := by decide +kernel
theorem dX3_cameOf_35 : decode cX3_cameOf 35 = .ok (.baload, 1) := by decide +kernel
theorem dX3_cameOf_36 : decode cX3_cameOf 36 = .ok (.ifCond .eq 24, 3) := by decide +kernel
theorem dX3_cameOf_39 : decode cX3_cameOf 39 = .ok (.aload_n 0, 1) := by decide +kernel
theorem dX3_cameOf_40 : decode cX3_cameOf 40 = .ok (.getfield 19, 3) := by decide +kernel
theorem dX3_cameOf_43 : decode cX3_cameOf 43 = .ok (.iload_n 3, 1) := by decide +kernel
theorem dX3_cameOf_44 : decode cX3_cameOf 44 = .ok (.iaload, 1) := by decide +kernel
theorem dX3_cameOf_45 : decode cX3_cameOf 45 = .ok (.aload_n 1, 1) := by decide +kernel
theorem dX3_cameOf_46 : decode cX3_cameOf 46 = .ok (.getfield 31, 3) := by decide +kernel
theorem dX3_cameOf_49 : decode cX3_cameOf 49 = .ok (.aload_n 1, 1) := by decide +kernel
theorem dX3_cameOf_50 : decode cX3_cameOf 50 = .ok (.getfield 34, 3) := by decide +kernel
theorem dX3_cameOf_53 : decode cX3_cameOf 53 = .ok (.iload_n 3, 1) := by decide +kernel
theorem dX3_cameOf_54 : decode cX3_cameOf 54 = .ok (.iaload, 1) := by decide +kernel
theorem dX3_cameOf_55 : decode cX3_cameOf 55 = .ok (.iaload, 1) := by decide +kernel
theorem dX3_cameOf_56 : decode cX3_cameOf 56 = .ok (.iadd, 1) := by decide +kernel
theorem dX3_cameOf_57 : decode cX3_cameOf 57 = .ok (.goto 4, 3) := by decide +kernel
theorem dX3_cameOf_60 : decode cX3_cameOf 60 = .ok (.iconst (-1), 1) := by decide +kernel
theorem dX3_cameOf_61 : decode cX3_cameOf 61 = .ok (.ireturn, 1) := by decide +kernel
theorem dX4_init_0 : decode cX4_init 0 = .ok (.aload_n 0, 1) := by decide +kernel
theorem dX4_init_1 : decode cX4_init 1 = .ok (.invokespecial 3, 3) := by decide +kernel
theorem dX4_init_4 : decode cX4_init 4 = .ok (.aload_n 0, 1) := by decide +kernel
theorem dX4_init_5 : decode cX4_init 5 = .ok (.new 9, 3) := by decide +kernel
theorem dX4_init_8 : decode cX4_init 8 = .ok (.dup, 1) := by decide +kernel
theorem dX4_init_9 : decode cX4_init 9 = .ok (.invokespecial 11, 3) := by decide +kernel
theorem dX4_init_12 : decode cX4_init 12 = .ok (.putfield 12, 3) := by decide +kernel
theorem dX4_init_15 : decode cX4_init 15 = .ok (.aload_n 0, 1) := by decide +kernel
theorem dX4_init_16 : decode cX4_init 16 = .ok (.new 16, 3) := by decide +kernel
theorem dX4_init_19 : decode cX4_init 19 = .ok (.dup, 1) := by decide +kernel
theorem dX4_init_20 : decode cX4_init 20 = .ok (.invokespecial 18, 3) := by decide +kernel
theorem dX4_init_23 : decode cX4_init 23 = .ok (.putfield 19, 3) := by decide +kernel
theorem dX4_init_26 : decode cX4_init 26 = .ok (.aload_n 0, 1) := by decide +kernel
theorem dX4_init_27 : decode cX4_init 27 = .ok (.new 23, 3) := by decide +kernel
theorem dX4_init_30 : decode cX4_init 30 = .ok (.dup, 1) := by decide +kernel
theorem dX4_init_31 : decode cX4_init 31 = .ok (.invokespecial 25, 3) := by decide +kernel
theorem dX4_init_34 : decode cX4_init 34 = .ok (.putfield 26, 3) := by decide +kernel
theorem dX4_init_37 : decode cX4_init 37 = .ok (.aload_n 0, 1) := by decide +kernel
theorem dX4_init_38 : decode cX4_init 38 = .ok (.new 30, 3) := by decide +kernel
theorem dX4_init_41 : decode cX4_init 41 = .ok (.dup, 1) := by decide +kernel
theorem dX4_init_42 : decode cX4_init 42 = .ok (.invokespecial 32, 3) := by decide +kernel
theorem dX4_init_45 : decode cX4_init 45 = .ok (.putfield 33, 3) := by decide +kernel
theorem dX4_init_48 : decode cX4_init 48 = .ok (.aload_n 0, 1) := by decide +kernel
theorem dX4_init_49 : decode cX4_init 49 = .ok (.new 30, 3) := by decide +kernel
theorem dX4_init_52 : decode cX4_init 52 = .ok (.dup, 1) := by decide +kernel
theorem dX4_init_53 : decode cX4_init 53 = .ok (.invokespecial 32, 3) := by decide +kernel
theorem dX4_init_56 : decode cX4_init 56 = .ok (.putfield 37, 3) := by decide +kernel
theorem dX4_init_59 : decode cX4_init 59 = .ok (.aload_n 0, 1) := by decide +kernel
theorem dX4_init_60 : decode cX4_init 60 = .ok (.iconst 0, 1) := by decide +kernel
theorem dX4_init_61 : decode cX4_init 61 = .ok (.putfield 40, 3) := by decide +kernel
theorem dX4_init_64 : decode cX4_init 64 = .ok (.return_, 1) := by decide +kernel
theorem dX4_place_0 : decode cX4_place 0 = .ok (.iload_n 1, 1) := by decide +kernel
theorem dX4_place_1 : decode cX4_place 1 = .ok (.iload_n 2, 1) := by decide +kernel
theorem dX4_place_2 : decode cX4_place 2 = .ok (.iload_n 3, 1) := by decide +kernel
theorem dX4_place_3 : decode cX4_place 3 = .ok (.invokestatic 44, 3) := by decide +kernel
theorem dX4_place_6 : decode cX4_place 6 = .ok (.aload_n 0, 1) := by decide +kernel
theorem dX4_place_7 : decode cX4_place 7 = .ok (.getfield 12, 3) := by decide +kernel
theorem dX4_place_10 : decode cX4_place 10 = .ok (.getfield 48, 3) := by decide +kernel
theorem dX4_place_13 : decode cX4_place 13 = .ok (.iconst 5, 1) := by decide +kernel
theorem dX4_place_14 : decode cX4_place 14 = .ok (.if_icmp .lt 13, 3) := by decide +kernel
theorem dX4_place_17 : decode cX4_place 17 = .ok (.new 52, 3) := by decide +kernel
theorem dX4_place_20 : decode cX4_place 20 = .ok (.dup, 1) := by decide +kernel
theorem dX4_place_21 : decode cX4_place 21 = .ok (.ldc 54, 2) := by decide +kernel
theorem dX4_place_23 : decode cX4_place 23 = .ok (.invokespecial 56, 3) := by decide +kernel
theorem dX4_place_26 : decode cX4_place 26 = .ok (.athrow, 1) := by decide +kernel
theorem dX4_place_27 : decode cX4_place 27 = .ok (.aload_n 0, 1) := by decide +kernel
theorem dX4_place_28 : decode cX4_place 28 = .ok (.getfield 12, 3) := by decide +kernel
theorem dX4_place_31 : decode cX4_place 31 = .ok (.getfield 48, 3) := by decide +kernel
theorem dX4_place_34 : decode cX4_place 34 = .ok (.istore 4, 2) := by decide +kernel
theorem dX4_place_36 : decode cX4_place 36 = .ok (.aload_n 0, 1) := by decide +kernel
theorem dX4_place_37 : decode cX4_place 37 = .ok (.getfield 12, 3) := by decide +kernel
theorem dX4_place_40 : decode cX4_place 40 = .ok (.dup, 1) := by decide +kernel
theorem dX4_place_41 : decode cX4_place 41 = .ok (.getfield 48, 3) := by decide +kernel
theorem dX4_place_44 : decode cX4_place 44 = .ok (.iconst 1, 1) := by decide +kernel
theorem dX4_place_45 : decode cX4_place 45 = .ok (.iadd, 1) := by decide +kernel
theorem dX4_place_46 : decode cX4_place 46 = .ok (.putfield 48, 3) := by decide +kernel
theorem dX4_place_49 : decode cX4_place 49 = .ok (.aload_n 0, 1) := by decide +kernel
theorem dX4_place_50 : decode cX4_place 50 = .ok (.getfield 12, 3) := by decide +kernel
theorem dX4_place_53 : decode cX4_place 53 = .ok (.iload 4, 2) := by decide +kernel
theorem dX4_place_55 : decode cX4_place 55 = .ok (.iload_n 1, 1) := by decide +kernel
theorem dX4_place_56 : decode cX4_place 56 = .ok (.iload_n 2, 1) := by decide +kernel
theorem dX4_place_57 : decode cX4_place 57 = .ok (.iload_n 3, 1) := by decide +kernel
theorem dX4_place_58 : decode cX4_place 58 = .ok (.invokevirtual 59, 3) := by decide +kernel
theorem dX4_place_61 : decode cX4_place 61 = .ok (.aload_n 0, 1) := by decide +kernel
theorem dX4_place_62 : decode cX4_place 62 = .ok (.iconst 0, 1) := by decide +kernel
theorem dX4_place_63 : decode cX4_place 63 = .ok (.putfield 40, 3) := by decide +kernel
theorem dX4_place_66 : decode cX4_place 66 = .ok (.iload 4, 2) := by decide +kernel
theorem dX4_place_68 : decode cX4_place 68 = .ok (.ireturn, 1) := by decide +kernel
theorem dX4_change_0 : decode cX4_change 0 = .ok (.aload_n 0, 1) := by decide +kernel
theorem dX4_change_1 : decode cX4_change 1 = .ok (.iload_n 1, 1) := by decide +kernel
theorem dX4_change_2 : decode cX4_change 2 = .ok (.invokevirtual 63, 3) := by decide +kernel
theorem dX4_change_5 : decode cX4_change 5 = .ok (.iload_n 2, 1) := by decide +kernel
theorem dX4_change_6 : decode cX4_change 6 = .ok (.iload_n 3, 1) := by decide +kernel
theorem dX4_change_7 : decode cX4_change 7 = .ok (.iload 4, 2) := by decide +kernel
theorem dX4_change_9 : decode cX4_change 9 = .ok (.invokestatic 44, 3) := by decide +kernel
theorem dX4_change_12 : decode cX4_change 12 = .ok (.aload_n 0, 1) := by decide +kernel
theorem dX4_change_13 : decode cX4_change 13 = .ok (.getfield 12, 3) := by decide +kernel
theorem dX4_change_16 : decode cX4_change 16 = .ok (.iload_n 1, 1) := by decide +kernel
theorem dX4_change_17 : decode cX4_change 17 = .ok (.iload_n 2, 1) := by decide +kernel
theorem dX4_change_18 : decode cX4_change 18 = .ok (.iload_n 3, 1) := by decide +kernel
theorem dX4_change_19 : decode cX4_change 19 = .ok (.iload 4, 2) := by decide +kernel
theorem dX4_change_21 : decode cX4_change 21 = .ok (.invokevirtual 59, 3) := by decide +kernel
theorem dX4_change_24 : decode cX4_change 24 = .ok (.aload_n 0, 1) := by decide +kernel
theorem dX4_change_25 : decode cX4_change 25 = .ok (.iconst 0, 1) := by decide +kernel
theorem dX4_change_26 : decode cX4_change 26 = .ok (.putfield 40, 3) := by decide +kernel
theorem dX4_change_29 : decode cX4_change 29 = .ok (.return_, 1) := by decide +kernel
theorem dX4_ask_0 : decode cX4_ask 0 = .ok (.aload_n 0, 1) := by decide +kernel
theorem dX4_ask_1 : decode cX4_ask 1 = .ok (.iload_n 3, 1) := by decide +kernel
theorem dX4_ask_2 : decode cX4_ask 2 = .ok (.invokevirtual 63, 3) := by decide +kernel
theorem dX4_ask_5 : decode cX4_ask 5 = .ok (.iload_n 1, 1) := by decide +kernel
theorem dX4_ask_6 : decode cX4_ask 6 = .ok (.iconst 0, 1) := by decide +kernel
theorem dX4_ask_7 : decode cX4_ask 7 = .ok (.iconst 3, 1) := by decide +kernel
theorem dX4_ask_8 : decode cX4_ask 8 = .ok (.invokestatic 67, 3) := by decide +kernel
theorem dX4_ask_11 : decode cX4_ask 11 = .ok (.iload_n 2, 1) := by decide +kernel
theorem dX4_ask_12 : decode cX4_ask 12 = .ok (.iconst 0, 1) := by decide +kernel
theorem dX4_ask_13 : decode cX4_ask 13 = .ok (.ldc 70, 2) := by decide +kernel
theorem dX4_ask_15 : decode cX4_ask 15 = .ok (.invokestatic 67, 3) := by decide +kernel
theorem dX4_ask_18 : decode cX4_ask 18 = .ok (.iload 4, 2) := by decide +kernel
theorem dX4_ask_20 : decode cX4_ask 20 = .ok (.iconst 1, 1) := by decide +kernel
theorem dX4_ask_21 : decode cX4_ask 21 = .ok (.sipush 1000, 3) := by decide +kernel
theorem dX4_ask_24 : decode cX4_ask 24 = .ok (.invokestatic 67, 3) := by decide +kernel
theorem dX4_ask_27 : decode cX4_ask 27 = .ok (.aload_n 0, 1) := by decide +kernel
theorem dX4_ask_28 : decode cX4_ask 28 = .ok (.getfield 12, 3) := by decide +kernel
theorem dX4_ask_31 : decode cX4_ask 31 = .ok (.getfield 71, 3) := by decide +kernel
theorem dX4_ask_34 : decode cX4_ask 34 = .ok (.bipush 60, 2) := by decide +kernel
theorem dX4_ask_36 : decode cX4_ask 36 = .ok (.if_icmp .lt 13, 3) := by decide +kernel
theorem dX4_ask_39 : decode cX4_ask 39 = .ok (.new 52, 3) := by decide +kernel
theorem dX4_ask_42 : decode cX4_ask 42 = .ok (.dup, 1) := by decide +kernel
theorem dX4_ask_43 : decode cX4_ask 43 = .ok (.ldc 74, 2) := by decide +kernel
theorem dX4_ask_45 : decode cX4_ask 45 = .ok (.invokespecial 56, 3) := by decide +kernel
theorem dX4_ask_48 : decode cX4_ask 48 = .ok (.athrow, 1) := by decide +kernel
theorem dX4_ask_49 : decode cX4_ask 49 = .ok (.aload_n 0, 1) := by decide +kernel
theorem dX4_ask_50 : decode cX4_ask 50 = .ok (.getfield 12, 3) := by decide +kernel
theorem dX4_ask_53 : decode cX4_ask 53 = .ok (.getfield 71, 3) := by decide +kernel
theorem dX4_ask_56 : decode cX4_ask 56 = .ok (.istore 5, 2) := by decide +kernel
theorem dX4_ask_58 : decode cX4_ask 58 = .ok (.aload_n 0, 1) := by decide +kernel
theorem dX4_ask_59 : decode cX4_ask 59 = .ok (.getfield 12, 3) := by decide +kernel
theorem dX4_ask_62 : decode cX4_ask 62 = .ok (.dup, 1) := by decide +kernel
theorem dX4_ask_63 : decode cX4_ask 63 = .ok (.getfield 71, 3) := by decide +kernel
theorem dX4_ask_66 : decode cX4_ask 66 = .ok (.iconst 1, 1) := by decide +kernel
theorem dX4_ask_67 : decode cX4_ask 67 = .ok (.iadd, 1) := by decide +kernel
theorem dX4_ask_68 : decode cX4_ask 68 = .ok (.putfield 71, 3) := by decide +kernel
theorem dX4_ask_71 : decode cX4_ask 71 = .ok (.aload_n 0, 1) := by decide +kernel
theorem dX4_ask_72 : decode cX4_ask 72 = .ok (.getfield 12, 3) := by decide +kernel
theorem dX4_ask_75 : decode cX4_ask 75 = .ok (.getfield 76, 3) := by decide +kernel
theorem dX4_ask_78 : decode cX4_ask 78 = .ok (.iload 5, 2) := by decide +kernel
theorem dX4_ask_80 : decode cX4_ask 80 = .ok (.iload_n 1, 1) := by decide +kernel
theorem dX4_ask_81 : decode cX4_ask 81 = .ok (.iastore, 1) := by decide +kernel
theorem dX4_ask_82 : decode cX4_ask 82 = .ok (.aload_n 0, 1) := by decide +kernel
theorem dX4_ask_83 : decode cX4_ask 83 = .ok (.getfield 12, 3) := by decide +kernel
theorem dX4_ask_86 : decode cX4_ask 86 = .ok (.getfield 80, 3) := by decide +kernel
theorem dX4_ask_89 : decode cX4_ask 89 = .ok (.iload 5, 2) := by decide +kernel
theorem dX4_ask_91 : decode cX4_ask 91 = .ok (.iload_n 2, 1) := by decide +kernel
theorem dX4_ask_92 : decode cX4_ask 92 = .ok (.iastore, 1) := by decide +kernel
theorem dX4_ask_93 : decode cX4_ask 93 = .ok (.aload_n 0, 1) := by decide +kernel
theorem dX4_ask_94 : decode cX4_ask 94 = .ok (.getfield 12, 3) := by decide +kernel
theorem dX4_ask_97 : decode cX4_ask 97 = .ok (.iload 5, 2) := by decide +kernel
theorem dX4_ask_99 : decode cX4_ask 99 = .ok (.iload_n 3, 1) := by decide +kernel
theorem dX4_ask_100 : decode cX4_ask 100 = .ok (.iload 4, 2) := by decide +kernel
theorem dX4_ask_102 : decode cX4_ask 102 = .ok (.invokevirtual 83, 3) := by decide +kernel
theorem dX4_ask_105 : decode cX4_ask 105 = .ok (.pop, 1) := by decide +kernel
theorem dX4_ask_106 : decode cX4_ask 106 = .ok (.aload_n 0, 1) := by decide +kernel
theorem dX4_ask_107 : decode cX4_ask 107 = .ok (.iconst 0, 1) := by decide +kernel
theorem dX4_ask_108 : decode cX4_ask 108 = .ok (.putfield 40, 3) := by decide +kernel
theorem dX4_ask_111 : decode cX4_ask 111 = .ok (.iload 5, 2) := by decide +kernel
theorem dX4_ask_113 : decode cX4_ask 113 = .ok (.ireturn, 1) := by decide +kernel
theorem dX4_step_0 : decode cX4_step 0 = .ok (.aload_n 0, 1) := by decide +kernel
theorem dX4_step_1 : decode cX4_step 1 = .ok (.iload_n 1, 1) := by decide +kernel
theorem dX4_step_2 : decode cX4_step 2 = .ok (.invokevirtual 87, 3) := by decide +kernel
theorem dX4_step_5 : decode cX4_step 5 = .ok (.aload_n 0, 1) := by decide +kernel
theorem dX4_step_6 : decode cX4_step 6 = .ok (.iload_n 2, 1) := by decide +kernel
theorem dX4_step_7 : decode cX4_step 7 = .ok (.invokevirtual 63, 3) := by decide +kernel
theorem dX4_step_10 : decode cX4_step 10 = .ok (.iload_n 3, 1) := by decide +kernel
theorem dX4_step_11 : decode cX4_step 11 = .ok (.iconst 1, 1) := by decide +kernel
theorem dX4_step_12 : decode cX4_step 12 = .ok (.sipush 1000, 3) := by decide +kernel
theorem dX4_step_15 : decode cX4_step 15 = .ok (.invokestatic 67, 3) := by decide +kernel
theorem dX4_step_18 : decode cX4_step 18 = .ok (.aload_n 0, 1) := by decide +kernel
theorem dX4_step_19 : decode cX4_step 19 = .ok (.getfield 12, 3) := by decide +kernel
theorem dX4_step_22 : decode cX4_step 22 = .ok (.getfield 90, 3) := by decide +kernel
theorem dX4_step_25 : decode cX4_step 25 = .ok (.iload_n 1, 1) := by decide +kernel
theorem dX4_step_26 : decode cX4_step 26 = .ok (.iaload, 1) := by decide +kernel
theorem dX4_step_27 : decode cX4_step 27 = .ok (.iconst 5, 1) := by decide +kernel
theorem dX4_step_28 : decode cX4_step 28 = .ok (.if_icmp .lt 5, 3) := by decide +kernel
theorem dX4_step_31 : decode cX4_step 31 = .ok (.iconst (-1), 1) := by decide +kernel
theorem dX4_step_32 : decode cX4_step 32 = .ok (.ireturn, 1) := by decide +kernel
theorem dX4_step_33 : decode cX4_step 33 = .ok (.aload_n 0, 1) := by decide +kernel
theorem dX4_step_34 : decode cX4_step 34 = .ok (.iconst 0, 1) := by decide +kernel
theorem dX4_step_35 : decode cX4_step 35 = .ok (.putfield 40, 3) := by decide +kernel
theorem dX4_step_38 : decode cX4_step 38 = .ok (.aload_n 0, 1) := by decide +kernel
theorem dX4_step_39 : decode cX4_step 39 = .ok (.getfield 12, 3) := by decide +kernel
theorem dX4_step_42 : decode cX4_step 42 = .ok (.iload_n 1, 1) := by decide +kernel
theorem dX4_step_43 : decode cX4_step 43 = .ok (.iload_n 2, 1) := by decide +kernel
theorem dX4_step_44 : decode cX4_step 44 = .ok (.iload_n 3, 1) := by decide +kernel
theorem dX4_step_45 : decode cX4_step 45 = .ok (.invokevirtual 83, 3) := by decide +kernel
theorem dX4_step_48 : decode cX4_step 48 = .ok (.ireturn, 1) := by decide +kernel
theorem dX4_seen_0 : decode cX4_seen 0 = .ok (.aload_n 0, 1) := by decide +kernel
theorem dX4_seen_1 : decode cX4_seen 1 = .ok (.iload_n 1, 1) := by decide +kernel
theorem dX4_seen_2 : decode cX4_seen 2 = .ok (.iload_n 2, 1) := by decide +kernel
theorem dX4_seen_3 : decode cX4_seen 3 = .ok (.invokevirtual 93, 3) := by decide +kernel
theorem dX4_seen_6 : decode cX4_seen 6 = .ok (.istore 5, 2) := by decide +kernel
theorem dX4_seen_8 : decode cX4_seen 8 = .ok (.iload_n 3, 1) := by decide +kernel
theorem dX4_seen_9 : decode cX4_seen 9 = .ok (.iconst 0, 1) := by decide +kernel
theorem dX4_seen_10 : decode cX4_seen 10 = .ok (.ldc 97, 2) := by decide +kernel
theorem dX4_seen_12 : decode cX4_seen 12 = .ok (.invokestatic 67, 3) := by decide +kernel
theorem dX4_seen_15 : decode cX4_seen 15 = .ok (.iload 4, 2) := by decide +kernel
theorem dX4_seen_17 : decode cX4_seen 17 = .ok (.iconst 0, 1) := by decide +kernel
theorem dX4_seen_18 : decode cX4_seen 18 = .ok (.ldc 97, 2) := by decide +kernel
theorem dX4_seen_20 : decode cX4_seen 20 = .ok (.invokestatic 67, 3) := by decide +kernel
theorem dX4_seen_23 : decode cX4_seen 23 = .ok (.iload 4, 2) := by decide +kernel
theorem dX4_seen_25 : decode cX4_seen 25 = .ok (.iload_n 3, 1) := by decide +kernel
theorem dX4_seen_26 : decode cX4_seen 26 = .ok (.if_icmp .gt 13, 3) := by decide +kernel
theorem dX4_seen_29 : decode cX4_seen 29 = .ok (.new 98, 3) := by decide +kernel
theorem dX4_seen_32 : decode cX4_seen 32 = .ok (.dup, 1) := by decide +kernel
theorem dX4_seen_33 : decode cX4_seen 33 = .ok (.ldc 100, 2) := by decide +kernel
theorem dX4_seen_35 : decode cX4_seen 35 = .ok (.invokespecial 102, 3) := by decide +kernel
theorem dX4_seen_38 : decode cX4_seen 38 = .ok (.athrow, 1) := by decide +kernel
theorem dX4_seen_39 : decode cX4_seen 39 = .ok (.aload_n 0, 1) := by decide +kernel
theorem dX4_seen_40 : decode cX4_seen 40 = .ok (.getfield 19, 3) := by decide +kernel
theorem dX4_seen_43 : decode cX4_seen 43 = .ok (.iload 5, 2) := by decide +kernel
theorem dX4_seen_45 : decode cX4_seen 45 = .ok (.iload_n 3, 1) := by decide +kernel
theorem dX4_seen_46 : decode cX4_seen 46 = .ok (.iload 4, 2) := by decide +kernel
theorem dX4_seen_48 : decode cX4_seen 48 = .ok (.invokevirtual 103, 3) := by decide +kernel
theorem dX4_seen_51 : decode cX4_seen 51 = .ok (.return_, 1) := by decide +kernel
theorem dX4_unsee_0 : decode cX4_unsee 0 = .ok (.aload_n 0, 1) := by decide +kernel
theorem dX4_unsee_1 : decode cX4_unsee 1 = .ok (.iload_n 1, 1) := by decide +kernel
theorem dX4_unsee_2 : decode cX4_unsee 2 = .ok (.iload_n 2, 1) := by decide +kernel
theorem dX4_unsee_3 : decode cX4_unsee 3 = .ok (.invokevirtual 93, 3) := by decide +kernel
theorem dX4_unsee_6 : decode cX4_unsee 6 = .ok (.istore_n 3, 1) := by decide +kernel
theorem dX4_unsee_7 : decode cX4_unsee 7 = .ok (.aload_n 0, 1) := by decide +kernel
theorem dX4_unsee_8 : decode cX4_unsee 8 = .ok (.getfield 19, 3) := by decide +kernel
theorem dX4_unsee_11 : decode cX4_unsee 11 = .ok (.getfield 106, 3) := by decide +kernel
theorem dX4_unsee_14 : decode cX4_unsee 14 = .ok (.iload_n 3, 1) := by decide +kernel
theorem dX4_unsee_15 : decode cX4_unsee 15 = .ok (.baload, 1) := by decide +kernel
theorem dX4_unsee_16 : decode cX4_unsee 16 = .ok (.istore 4, 2) := by decide +kernel
theorem dX4_unsee_18 : decode cX4_unsee 18 = .ok (.aload_n 0, 1) := by decide +kernel
theorem dX4_unsee_19 : decode cX4_unsee 19 = .ok (.getfield 19, 3) := by decide +kernel
theorem dX4_unsee_22 : decode cX4_unsee 22 = .ok (.getfield 106, 3) := by decide +kernel
theorem dX4_unsee_25 : decode cX4_unsee 25 = .ok (.iload_n 3, 1) := by decide +kernel
theorem dX4_unsee_26 : decode cX4_unsee 26 = .ok (.iconst 0, 1) := by decide +kernel
theorem dX4_unsee_27 : decode cX4_unsee 27 = .ok (.bastore, 1) := by decide +kernel
theorem dX4_unsee_28 : decode cX4_unsee 28 = .ok (.iload 4, 2) := by decide +kernel
theorem dX4_unsee_30 : decode cX4_unsee 30 = .ok (.ireturn, 1) := by decide +kernel
theorem dX4_played_0 : decode cX4_played 0 = .ok (.aload_n 0, 1) := by decide +kernel
theorem dX4_played_1 : decode cX4_played 1 = .ok (.iload_n 1, 1) := by decide +kernel
theorem dX4_played_2 : decode cX4_played 2 = .ok (.iload_n 2, 1) := by decide +kernel
theorem dX4_played_3 : decode cX4_played 3 = .ok (.invokevirtual 93, 3) := by decide +kernel
theorem dX4_played_6 : decode cX4_played 6 = .ok (.istore 4, 2) := by decide +kernel
theorem dX4_played_8 : decode cX4_played 8 = .ok (.iload_n 3, 1) := by decide +kernel
theorem dX4_played_9 : decode cX4_played 9 = .ok (.iconst 2, 1) := by decide +kernel
theorem dX4_played_10 : decode cX4_played 10 = .ok (.invokestatic 110, 3) := by decide +kernel
theorem dX4_played_13 : decode cX4_played 13 = .ok (.aload_n 0, 1) := by decide +kernel
theorem dX4_played_14 : decode cX4_played 14 = .ok (.invokevirtual 114, 3) := by decide +kernel
theorem dX4_played_17 : decode cX4_played 17 = .ok (.iload_n 3, 1) := by decide +kernel
theorem dX4_played_18 : decode cX4_played 18 = .ok (.ifCond .ne 14, 3) := by decide +kernel
theorem dX4_played_21 : decode cX4_played 21 = .ok (.aload_n 0, 1) := by decide +kernel
theorem dX4_played_22 : decode cX4_played 22 = .ok (.getfield 33, 3) := by decide +kernel
theorem dX4_played_25 : decode cX4_played 25 = .ok (.getfield 117, 3) := by decide +kernel
theorem dX4_played_28 : decode cX4_played 28 = .ok (.iload 4, 2) := by decide +kernel
theorem dX4_played_30 : decode cX4_played 30 = .ok (.iaload, 1) := by decide +kernel
theorem dX4_played_31 : decode cX4_played 31 = .ok (.ireturn, 1) := by decide +kernel
theorem dX4_played_32 : decode cX4_played 32 = .ok (.iload_n 3, 1) := by decide +kernel
theorem dX4_played_33 : decode cX4_played 33 = .ok (.iconst 1, 1) := by decide +kernel
theorem dX4_played_34 : decode cX4_played 34 = .ok (.if_icmp .ne 16, 3) := by decide +kernel
theorem dX4_played_37 : decode cX4_played 37 = .ok (.aload_n 0, 1) := by decide +kernel
theorem dX4_played_38 : decode cX4_played 38 = .ok (.getfield 33, 3) := by decide +kernel
end
section
theorem dX4_played_41 : decode cX4_played 41 = .ok (.getfield 120, 3) := by decide +kernel
theorem dX4_played_44 : decode cX4_played 44 = .ok (.iload 4, 2) := by decide +kernel
theorem dX4_played_46 : decode cX4_played 46 = .ok (.iaload, 1) := by decide +kernel
theorem dX4_played_47 : decode cX4_played 47 = .ok (.goto 13, 3) := by decide +kernel
theorem dX4_played_50 : decode cX4_played 50 = .ok (.aload_n 0, 1) := by decide +kernel
theorem dX4_played_51 : decode cX4_played 51 = .ok (.getfield 33, 3) := by decide +kernel
theorem dX4_played_54 : decode cX4_played 54 = .ok (.getfield 123, 3) := by decide +kernel
theorem dX4_played_57 : decode cX4_played 57 = .ok (.iload 4, 2) := by decide +kernel
theorem dX4_played_59 : decode cX4_played 59 = .ok (.iaload, 1) := by decide +kernel
theorem dX4_played_60 : decode cX4_played 60 = .ok (.ireturn, 1) := by decide +kernel
theorem dX4_trace_0 : decode cX4_trace 0 = .ok (.aload_n 0, 1) := by decide +kernel
theorem dX4_trace_1 : decode cX4_trace 1 = .ok (.invokevirtual 114, 3) := by decide +kernel
theorem dX4_trace_4 : decode cX4_trace 4 = .ok (.iconst 0, 1) := by decide +kernel
theorem dX4_trace_5 : decode cX4_trace 5 = .ok (.istore_n 1, 1) := by decide +kernel
theorem dX4_trace_6 : decode cX4_trace 6 = .ok (.iload_n 1, 1) := by decide +kernel
theorem dX4_trace_7 : decode cX4_trace 7 = .ok (.aload_n 0, 1) := by decide +kernel
theorem dX4_trace_8 : decode cX4_trace 8 = .ok (.getfield 12, 3) := by decide +kernel
theorem dX4_trace_11 : decode cX4_trace 11 = .ok (.invokevirtual 126, 3) := by decide +kernel
theorem dX4_trace_14 : decode cX4_trace 14 = .ok (.if_icmp .ge 46, 3) := by decide +kernel
theorem dX4_trace_17 : decode cX4_trace 17 = .ok (.aload_n 0, 1) := by decide +kernel
theorem dX4_trace_18 : decode cX4_trace 18 = .ok (.getfield 12, 3) := by decide +kernel
theorem dX4_trace_21 : decode cX4_trace 21 = .ok (.iload_n 1, 1) := by decide +kernel
theorem dX4_trace_22 : decode cX4_trace 22 = .ok (.invokevirtual 130, 3) := by decide +kernel
theorem dX4_trace_25 : decode cX4_trace 25 = .ok (.ifCond .eq 29, 3) := by decide +kernel
theorem dX4_trace_28 : decode cX4_trace 28 = .ok (.aload_n 0, 1) := by decide +kernel
theorem dX4_trace_29 : decode cX4_trace 29 = .ok (.getfield 19, 3) := by decide +kernel
theorem dX4_trace_32 : decode cX4_trace 32 = .ok (.iload_n 1, 1) := by decide +kernel
theorem dX4_trace_33 : decode cX4_trace 33 = .ok (.aload_n 0, 1) := by decide +kernel
theorem dX4_trace_34 : decode cX4_trace 34 = .ok (.getfield 33, 3) := by decide +kernel
theorem dX4_trace_37 : decode cX4_trace 37 = .ok (.getfield 120, 3) := by decide +kernel
theorem dX4_trace_40 : decode cX4_trace 40 = .ok (.iload_n 1, 1) := by decide +kernel
theorem dX4_trace_41 : decode cX4_trace 41 = .ok (.iaload, 1) := by decide +kernel
theorem dX4_trace_42 : decode cX4_trace 42 = .ok (.aload_n 0, 1) := by decide +kernel
theorem dX4_trace_43 : decode cX4_trace 43 = .ok (.getfield 33, 3) := by decide +kernel
theorem dX4_trace_46 : decode cX4_trace 46 = .ok (.getfield 123, 3) := by decide +kernel
theorem dX4_trace_49 : decode cX4_trace 49 = .ok (.iload_n 1, 1) := by decide +kernel
theorem dX4_trace_50 : decode cX4_trace 50 = .ok (.iaload, 1) := by decide +kernel
theorem dX4_trace_51 : decode cX4_trace 51 = .ok (.invokevirtual 103, 3) := by decide +kernel
theorem dX4_trace_54 : decode cX4_trace 54 = .ok (.iinc 1 1, 3) := by decide +kernel
theorem dX4_trace_57 : decode cX4_trace 57 = .ok (.goto (-51), 3) := by decide +kernel
theorem dX4_trace_60 : decode cX4_trace 60 = .ok (.aload_n 0, 1) := by decide +kernel
theorem dX4_trace_61 : decode cX4_trace 61 = .ok (.getfield 12, 3) := by decide +kernel
theorem dX4_trace_64 : decode cX4_trace 64 = .ok (.getfield 134, 3) := by decide +kernel
theorem dX4_trace_67 : decode cX4_trace 67 = .ok (.ireturn, 1) := by decide +kernel
theorem dX4_unlike_0 : decode cX4_unlike 0 = .ok (.aload_n 0, 1) := by decide +kernel
theorem dX4_unlike_1 : decode cX4_unlike 1 = .ok (.invokevirtual 114, 3) := by decide +kernel
theorem dX4_unlike_4 : decode cX4_unlike 4 = .ok (.iconst 0, 1) := by decide +kernel
theorem dX4_unlike_5 : decode cX4_unlike 5 = .ok (.istore_n 1, 1) := by decide +kernel
theorem dX4_unlike_6 : decode cX4_unlike 6 = .ok (.iconst 0, 1) := by decide +kernel
theorem dX4_unlike_7 : decode cX4_unlike 7 = .ok (.istore_n 2, 1) := by decide +kernel
theorem dX4_unlike_8 : decode cX4_unlike 8 = .ok (.iload_n 2, 1) := by decide +kernel
theorem dX4_unlike_9 : decode cX4_unlike 9 = .ok (.aload_n 0, 1) := by decide +kernel
theorem dX4_unlike_10 : decode cX4_unlike 10 = .ok (.getfield 12, 3) := by decide +kernel
theorem dX4_unlike_13 : decode cX4_unlike 13 = .ok (.invokevirtual 126, 3) := by decide +kernel
theorem dX4_unlike_16 : decode cX4_unlike 16 = .ok (.if_icmp .ge 66, 3) := by decide +kernel
theorem dX4_unlike_19 : decode cX4_unlike 19 = .ok (.aload_n 0, 1) := by decide +kernel
theorem dX4_unlike_20 : decode cX4_unlike 20 = .ok (.getfield 19, 3) := by decide +kernel
theorem dX4_unlike_23 : decode cX4_unlike 23 = .ok (.getfield 106, 3) := by decide +kernel
theorem dX4_unlike_26 : decode cX4_unlike 26 = .ok (.iload_n 2, 1) := by decide +kernel
theorem dX4_unlike_27 : decode cX4_unlike 27 = .ok (.baload, 1) := by decide +kernel
theorem dX4_unlike_28 : decode cX4_unlike 28 = .ok (.ifCond .eq 48, 3) := by decide +kernel
theorem dX4_unlike_31 : decode cX4_unlike 31 = .ok (.aload_n 0, 1) := by decide +kernel
theorem dX4_unlike_32 : decode cX4_unlike 32 = .ok (.getfield 19, 3) := by decide +kernel
theorem dX4_unlike_35 : decode cX4_unlike 35 = .ok (.getfield 137, 3) := by decide +kernel
theorem dX4_unlike_38 : decode cX4_unlike 38 = .ok (.iload_n 2, 1) := by decide +kernel
theorem dX4_unlike_39 : decode cX4_unlike 39 = .ok (.iaload, 1) := by decide +kernel
theorem dX4_unlike_40 : decode cX4_unlike 40 = .ok (.aload_n 0, 1) := by decide +kernel
theorem dX4_unlike_41 : decode cX4_unlike 41 = .ok (.getfield 33, 3) := by decide +kernel
theorem dX4_unlike_44 : decode cX4_unlike 44 = .ok (.getfield 120, 3) := by decide +kernel
theorem dX4_unlike_47 : decode cX4_unlike 47 = .ok (.iload_n 2, 1) := by decide +kernel
theorem dX4_unlike_48 : decode cX4_unlike 48 = .ok (.iaload, 1) := by decide +kernel
theorem dX4_unlike_49 : decode cX4_unlike 49 = .ok (.if_icmp .ne 24, 3) := by decide +kernel
theorem dX4_unlike_52 : decode cX4_unlike 52 = .ok (.aload_n 0, 1) := by decide +kernel
theorem dX4_unlike_53 : decode cX4_unlike 53 = .ok (.getfield 19, 3) := by decide +kernel
theorem dX4_unlike_56 : decode cX4_unlike 56 = .ok (.getfield 138, 3) := by decide +kernel
theorem dX4_unlike_59 : decode cX4_unlike 59 = .ok (.iload_n 2, 1) := by decide +kernel
theorem dX4_unlike_60 : decode cX4_unlike 60 = .ok (.iaload, 1) := by decide +kernel
theorem dX4_unlike_61 : decode cX4_unlike 61 = .ok (.aload_n 0, 1) := by decide +kernel
theorem dX4_unlike_62 : decode cX4_unlike 62 = .ok (.getfield 33, 3) := by decide +kernel
theorem dX4_unlike_65 : decode cX4_unlike 65 = .ok (.getfield 123, 3) := by decide +kernel
theorem dX4_unlike_68 : decode cX4_unlike 68 = .ok (.iload_n 2, 1) := by decide +kernel
theorem dX4_unlike_69 : decode cX4_unlike 69 = .ok (.iaload, 1) := by decide +kernel
theorem dX4_unlike_70 : decode cX4_unlike 70 = .ok (.if_icmp .eq 6, 3) := by decide +kernel
theorem dX4_unlike_73 : decode cX4_unlike 73 = .ok (.iinc 1 1, 3) := by decide +kernel
theorem dX4_unlike_76 : decode cX4_unlike 76 = .ok (.iinc 2 1, 3) := by decide +kernel
theorem dX4_unlike_79 : decode cX4_unlike 79 = .ok (.goto (-71), 3) := by decide +kernel
theorem dX4_unlike_82 : decode cX4_unlike 82 = .ok (.iload_n 1, 1) := by decide +kernel
theorem dX4_unlike_83 : decode cX4_unlike 83 = .ok (.ireturn, 1) := by decide +kernel
theorem dX4_found_0 : decode cX4_found 0 = .ok (.aload_n 0, 1) := by decide +kernel
theorem dX4_found_1 : decode cX4_found 1 = .ok (.iload_n 1, 1) := by decide +kernel
theorem dX4_found_2 : decode cX4_found 2 = .ok (.invokevirtual 63, 3) := by decide +kernel
theorem dX4_found_5 : decode cX4_found 5 = .ok (.aload_n 0, 1) := by decide +kernel
theorem dX4_found_6 : decode cX4_found 6 = .ok (.getfield 26, 3) := by decide +kernel
theorem dX4_found_9 : decode cX4_found 9 = .ok (.aload_n 0, 1) := by decide +kernel
theorem dX4_found_10 : decode cX4_found 10 = .ok (.getfield 12, 3) := by decide +kernel
theorem dX4_found_13 : decode cX4_found 13 = .ok (.aload_n 0, 1) := by decide +kernel
theorem dX4_found_14 : decode cX4_found 14 = .ok (.getfield 19, 3) := by decide +kernel
theorem dX4_found_17 : decode cX4_found 17 = .ok (.iload_n 1, 1) := by decide +kernel
theorem dX4_found_18 : decode cX4_found 18 = .ok (.invokevirtual 139, 3) := by decide +kernel
theorem dX4_found_21 : decode cX4_found 21 = .ok (.iload_n 2, 1) := by decide +kernel
theorem dX4_found_22 : decode cX4_found 22 = .ok (.ifCond .eq 13, 3) := by decide +kernel
theorem dX4_found_25 : decode cX4_found 25 = .ok (.aload_n 0, 1) := by decide +kernel
theorem dX4_found_26 : decode cX4_found 26 = .ok (.getfield 26, 3) := by decide +kernel
theorem dX4_found_29 : decode cX4_found 29 = .ok (.invokevirtual 143, 3) := by decide +kernel
theorem dX4_found_32 : decode cX4_found 32 = .ok (.goto 10, 3) := by decide +kernel
theorem dX4_found_35 : decode cX4_found 35 = .ok (.aload_n 0, 1) := by decide +kernel
theorem dX4_found_36 : decode cX4_found 36 = .ok (.getfield 26, 3) := by decide +kernel
theorem dX4_found_39 : decode cX4_found 39 = .ok (.invokevirtual 146, 3) := by decide +kernel
theorem dX4_found_42 : decode cX4_found 42 = .ok (.ireturn, 1) := by decide +kernel
theorem dX4_overlap_0 : decode cX4_overlap 0 = .ok (.aload_n 0, 1) := by decide +kernel
theorem dX4_overlap_1 : decode cX4_overlap 1 = .ok (.iload_n 1, 1) := by decide +kernel
theorem dX4_overlap_2 : decode cX4_overlap 2 = .ok (.invokevirtual 63, 3) := by decide +kernel
theorem dX4_overlap_5 : decode cX4_overlap 5 = .ok (.aload_n 0, 1) := by decide +kernel
theorem dX4_overlap_6 : decode cX4_overlap 6 = .ok (.getfield 26, 3) := by decide +kernel
theorem dX4_overlap_9 : decode cX4_overlap 9 = .ok (.aload_n 0, 1) := by decide +kernel
theorem dX4_overlap_10 : decode cX4_overlap 10 = .ok (.getfield 12, 3) := by decide +kernel
theorem dX4_overlap_13 : decode cX4_overlap 13 = .ok (.aload_n 0, 1) := by decide +kernel
theorem dX4_overlap_14 : decode cX4_overlap 14 = .ok (.getfield 19, 3) := by decide +kernel
theorem dX4_overlap_17 : decode cX4_overlap 17 = .ok (.iload_n 1, 1) := by decide +kernel
theorem dX4_overlap_18 : decode cX4_overlap 18 = .ok (.invokevirtual 139, 3) := by decide +kernel
theorem dX4_overlap_21 : decode cX4_overlap 21 = .ok (.aload_n 0, 1) := by decide +kernel
theorem dX4_overlap_22 : decode cX4_overlap 22 = .ok (.getfield 26, 3) := by decide +kernel
theorem dX4_overlap_25 : decode cX4_overlap 25 = .ok (.invokevirtual 149, 3) := by decide +kernel
theorem dX4_overlap_28 : decode cX4_overlap 28 = .ok (.ireturn, 1) := by decide +kernel
theorem dX4_counts_0 : decode cX4_counts 0 = .ok (.aload_n 0, 1) := by decide +kernel
theorem dX4_counts_1 : decode cX4_counts 1 = .ok (.iload_n 1, 1) := by decide +kernel
theorem dX4_counts_2 : decode cX4_counts 2 = .ok (.invokevirtual 63, 3) := by decide +kernel
theorem dX4_counts_5 : decode cX4_counts 5 = .ok (.iload 4, 2) := by decide +kernel
theorem dX4_counts_7 : decode cX4_counts 7 = .ok (.iconst 0, 1) := by decide +kernel
theorem dX4_counts_8 : decode cX4_counts 8 = .ok (.ldc 97, 2) := by decide +kernel
theorem dX4_counts_10 : decode cX4_counts 10 = .ok (.invokestatic 67, 3) := by decide +kernel
theorem dX4_counts_13 : decode cX4_counts 13 = .ok (.iload_n 3, 1) := by decide +kernel
theorem dX4_counts_14 : decode cX4_counts 14 = .ok (.iconst 0, 1) := by decide +kernel
theorem dX4_counts_15 : decode cX4_counts 15 = .ok (.iload 4, 2) := by decide +kernel
theorem dX4_counts_17 : decode cX4_counts 17 = .ok (.invokestatic 67, 3) := by decide +kernel
theorem dX4_counts_20 : decode cX4_counts 20 = .ok (.iload 5, 2) := by decide +kernel
theorem dX4_counts_22 : decode cX4_counts 22 = .ok (.iconst 3, 1) := by decide +kernel
theorem dX4_counts_23 : decode cX4_counts 23 = .ok (.invokestatic 110, 3) := by decide +kernel
theorem dX4_counts_26 : decode cX4_counts 26 = .ok (.iload_n 2, 1) := by decide +kernel
theorem dX4_counts_27 : decode cX4_counts 27 = .ok (.ifCond .eq 14, 3) := by decide +kernel
theorem dX4_counts_30 : decode cX4_counts 30 = .ok (.aload_n 0, 1) := by decide +kernel
theorem dX4_counts_31 : decode cX4_counts 31 = .ok (.iload_n 1, 1) := by decide +kernel
theorem dX4_counts_32 : decode cX4_counts 32 = .ok (.iload_n 3, 1) := by decide +kernel
theorem dX4_counts_33 : decode cX4_counts 33 = .ok (.iload 4, 2) := by decide +kernel
theorem dX4_counts_35 : decode cX4_counts 35 = .ok (.iload 5, 2) := by decide +kernel
theorem dX4_counts_37 : decode cX4_counts 37 = .ok (.invokevirtual 152, 3) := by decide +kernel
theorem dX4_counts_40 : decode cX4_counts 40 = .ok (.lreturn, 1) := by decide +kernel
theorem dX4_counts_41 : decode cX4_counts 41 = .ok (.aload_n 0, 1) := by decide +kernel
theorem dX4_counts_42 : decode cX4_counts 42 = .ok (.iload_n 1, 1) := by decide +kernel
theorem dX4_counts_43 : decode cX4_counts 43 = .ok (.iload_n 3, 1) := by decide +kernel
theorem dX4_counts_44 : decode cX4_counts 44 = .ok (.iload 4, 2) := by decide +kernel
theorem dX4_counts_46 : decode cX4_counts 46 = .ok (.iload 5, 2) := by decide +kernel
theorem dX4_counts_48 : decode cX4_counts 48 = .ok (.invokevirtual 156, 3) := by decide +kernel
theorem dX4_counts_51 : decode cX4_counts 51 = .ok (.lreturn, 1) := by decide +kernel
theorem dX4_total_0 : decode cX4_total 0 = .ok (.aload_n 0, 1) := by decide +kernel
theorem dX4_total_1 : decode cX4_total 1 = .ok (.invokevirtual 114, 3) := by decide +kernel
theorem dX4_total_4 : decode cX4_total 4 = .ok (.aload_n 0, 1) := by decide +kernel
theorem dX4_total_5 : decode cX4_total 5 = .ok (.getfield 33, 3) := by decide +kernel
theorem dX4_total_8 : decode cX4_total 8 = .ok (.aload_n 0, 1) := by decide +kernel
theorem dX4_total_9 : decode cX4_total 9 = .ok (.getfield 12, 3) := by decide +kernel
theorem dX4_total_12 : decode cX4_total 12 = .ok (.invokevirtual 159, 3) := by decide +kernel
theorem dX4_total_15 : decode cX4_total 15 = .ok (.lreturn, 1) := by decide +kernel
theorem dX4_saved_0 : decode cX4_saved 0 = .ok (.aload_n 0, 1) := by decide +kernel
theorem dX4_saved_1 : decode cX4_saved 1 = .ok (.iload_n 1, 1) := by decide +kernel
theorem dX4_saved_2 : decode cX4_saved 2 = .ok (.invokevirtual 63, 3) := by decide +kernel
theorem dX4_saved_5 : decode cX4_saved 5 = .ok (.aload_n 0, 1) := by decide +kernel
theorem dX4_saved_6 : decode cX4_saved 6 = .ok (.invokevirtual 114, 3) := by decide +kernel
theorem dX4_saved_9 : decode cX4_saved 9 = .ok (.aload_n 0, 1) := by decide +kernel
theorem dX4_saved_10 : decode cX4_saved 10 = .ok (.iload_n 1, 1) := by decide +kernel
theorem dX4_saved_11 : decode cX4_saved 11 = .ok (.invokevirtual 163, 3) := by decide +kernel
theorem dX4_saved_14 : decode cX4_saved 14 = .ok (.lreturn, 1) := by decide +kernel
theorem dX4_narrow_0 : decode cX4_narrow 0 = .ok (.aload_n 0, 1) := by decide +kernel
theorem dX4_narrow_1 : decode cX4_narrow 1 = .ok (.invokevirtual 114, 3) := by decide +kernel
theorem dX4_narrow_4 : decode cX4_narrow 4 = .ok (.iconst (-1), 1) := by decide +kernel
theorem dX4_narrow_5 : decode cX4_narrow 5 = .ok (.istore_n 1, 1) := by decide +kernel
theorem dX4_narrow_6 : decode cX4_narrow 6 = .ok (.lconst 0, 1) := by decide +kernel
theorem dX4_narrow_7 : decode cX4_narrow 7 = .ok (.lstore_n 2, 1) := by decide +kernel
theorem dX4_narrow_8 : decode cX4_narrow 8 = .ok (.iconst 0, 1) := by decide +kernel
theorem dX4_narrow_9 : decode cX4_narrow 9 = .ok (.istore 4, 2) := by decide +kernel
theorem dX4_narrow_11 : decode cX4_narrow 11 = .ok (.iload 4, 2) := by decide +kernel
theorem dX4_narrow_13 : decode cX4_narrow 13 = .ok (.aload_n 0, 1) := by decide +kernel
theorem dX4_narrow_14 : decode cX4_narrow 14 = .ok (.getfield 12, 3) := by decide +kernel
theorem dX4_narrow_17 : decode cX4_narrow 17 = .ok (.getfield 48, 3) := by decide +kernel
theorem dX4_narrow_20 : decode cX4_narrow 20 = .ok (.if_icmp .ge 35, 3) := by decide +kernel
theorem dX4_narrow_23 : decode cX4_narrow 23 = .ok (.aload_n 0, 1) := by decide +kernel
theorem dX4_narrow_24 : decode cX4_narrow 24 = .ok (.iload 4, 2) := by decide +kernel
theorem dX4_narrow_26 : decode cX4_narrow 26 = .ok (.invokevirtual 163, 3) := by decide +kernel
theorem dX4_narrow_29 : decode cX4_narrow 29 = .ok (.lstore 5, 2) := by decide +kernel
theorem dX4_narrow_31 : decode cX4_narrow 31 = .ok (.iload_n 1, 1) := by decide +kernel
theorem dX4_narrow_32 : decode cX4_narrow 32 = .ok (.iconst (-1), 1) := by decide +kernel
theorem dX4_narrow_33 : decode cX4_narrow 33 = .ok (.if_icmp .eq 10, 3) := by decide +kernel
theorem dX4_narrow_36 : decode cX4_narrow 36 = .ok (.lload 5, 2) := by decide +kernel
theorem dX4_narrow_38 : decode cX4_narrow 38 = .ok (.lload_n 2, 1) := by decide +kernel
theorem dX4_narrow_39 : decode cX4_narrow 39 = .ok (.lcmp, 1) := by decide +kernel
theorem dX4_narrow_40 : decode cX4_narrow 40 = .ok (.ifCond .le 9, 3) := by decide +kernel
theorem dX4_narrow_43 : decode cX4_narrow 43 = .ok (.iload 4, 2) := by decide +kernel
theorem dX4_narrow_45 : decode cX4_narrow 45 = .ok (.istore_n 1, 1) := by decide +kernel
theorem dX4_narrow_46 : decode cX4_narrow 46 = .ok (.lload 5, 2) := by decide +kernel
theorem dX4_narrow_48 : decode cX4_narrow 48 = .ok (.lstore_n 2, 1) := by decide +kernel
theorem dX4_narrow_49 : decode cX4_narrow 49 = .ok (.iinc 4 1, 3) := by decide +kernel
theorem dX4_narrow_52 : decode cX4_narrow 52 = .ok (.goto (-41), 3) := by decide +kernel
theorem dX4_narrow_55 : decode cX4_narrow 55 = .ok (.iload_n 1, 1) := by decide +kernel
theorem dX4_narrow_56 : decode cX4_narrow 56 = .ok (.ireturn, 1) := by decide +kernel
theorem dX4_alone_0 : decode cX4_alone 0 = .ok (.aload_n 0, 1) := by decide +kernel
theorem dX4_alone_1 : decode cX4_alone 1 = .ok (.iload_n 1, 1) := by decide +kernel
theorem dX4_alone_2 : decode cX4_alone 2 = .ok (.invokevirtual 87, 3) := by decide +kernel
theorem dX4_alone_5 : decode cX4_alone 5 = .ok (.aload_n 0, 1) := by decide +kernel
theorem dX4_alone_6 : decode cX4_alone 6 = .ok (.getfield 12, 3) := by decide +kernel
theorem dX4_alone_9 : decode cX4_alone 9 = .ok (.getfield 80, 3) := by decide +kernel
theorem dX4_alone_12 : decode cX4_alone 12 = .ok (.iload_n 1, 1) := by decide +kernel
theorem dX4_alone_13 : decode cX4_alone 13 = .ok (.iaload, 1) := by decide +kernel
theorem dX4_alone_14 : decode cX4_alone 14 = .ok (.istore_n 2, 1) := by decide +kernel
theorem dX4_alone_15 : decode cX4_alone 15 = .ok (.aload_n 0, 1) := by decide +kernel
theorem dX4_alone_16 : decode cX4_alone 16 = .ok (.getfield 12, 3) := by decide +kernel
theorem dX4_alone_19 : decode cX4_alone 19 = .ok (.iload_n 1, 1) := by decide +kernel
theorem dX4_alone_20 : decode cX4_alone 20 = .ok (.invokevirtual 167, 3) := by decide +kernel
theorem dX4_alone_23 : decode cX4_alone 23 = .ok (.istore_n 3, 1) := by decide +kernel
theorem dX4_alone_24 : decode cX4_alone 24 = .ok (.iload_n 3, 1) := by decide +kernel
theorem dX4_alone_25 : decode cX4_alone 25 = .ok (.aload_n 0, 1) := by decide +kernel
theorem dX4_alone_26 : decode cX4_alone 26 = .ok (.getfield 12, 3) := by decide +kernel
theorem dX4_alone_29 : decode cX4_alone 29 = .ok (.iload_n 1, 1) := by decide +kernel
theorem dX4_alone_30 : decode cX4_alone 30 = .ok (.invokevirtual 171, 3) := by decide +kernel
theorem dX4_alone_33 : decode cX4_alone 33 = .ok (.if_icmp .gt 53, 3) := by decide +kernel
theorem dX4_alone_36 : decode cX4_alone 36 = .ok (.iload_n 2, 1) := by decide +kernel
theorem dX4_alone_37 : decode cX4_alone 37 = .ok (.aload_n 0, 1) := by decide +kernel
theorem dX4_alone_38 : decode cX4_alone 38 = .ok (.getfield 12, 3) := by decide +kernel
theorem dX4_alone_41 : decode cX4_alone 41 = .ok (.getfield 174, 3) := by decide +kernel
theorem dX4_alone_44 : decode cX4_alone 44 = .ok (.iload_n 3, 1) := by decide +kernel
theorem dX4_alone_45 : decode cX4_alone 45 = .ok (.iaload, 1) := by decide +kernel
theorem dX4_alone_46 : decode cX4_alone 46 = .ok (.iadd, 1) := by decide +kernel
theorem dX4_alone_47 : decode cX4_alone 47 = .ok (.istore_n 2, 1) := by decide +kernel
theorem dX4_alone_48 : decode cX4_alone 48 = .ok (.iload_n 3, 1) := by decide +kernel
theorem dX4_alone_49 : decode cX4_alone 49 = .ok (.aload_n 0, 1) := by decide +kernel
theorem dX4_alone_50 : decode cX4_alone 50 = .ok (.getfield 12, 3) := by decide +kernel
theorem dX4_alone_53 : decode cX4_alone 53 = .ok (.iload_n 1, 1) := by decide +kernel
theorem dX4_alone_54 : decode cX4_alone 54 = .ok (.invokevirtual 171, 3) := by decide +kernel
theorem dX4_alone_57 : decode cX4_alone 57 = .ok (.if_icmp .ge 23, 3) := by decide +kernel
theorem dX4_alone_60 : decode cX4_alone 60 = .ok (.iload_n 2, 1) := by decide +kernel
theorem dX4_alone_61 : decode cX4_alone 61 = .ok (.aload_n 0, 1) := by decide +kernel
theorem dX4_alone_62 : decode cX4_alone 62 = .ok (.getfield 12, 3) := by decide +kernel
theorem dX4_alone_65 : decode cX4_alone 65 = .ok (.getfield 177, 3) := by decide +kernel
theorem dX4_alone_68 : decode cX4_alone 68 = .ok (.aload_n 0, 1) := by decide +kernel
theorem dX4_alone_69 : decode cX4_alone 69 = .ok (.getfield 12, 3) := by decide +kernel
theorem dX4_alone_72 : decode cX4_alone 72 = .ok (.getfield 180, 3) := by decide +kernel
theorem dX4_alone_75 : decode cX4_alone 75 = .ok (.iload_n 3, 1) := by decide +kernel
theorem dX4_alone_76 : decode cX4_alone 76 = .ok (.iaload, 1) := by decide +kernel
theorem dX4_alone_77 : decode cX4_alone 77 = .ok (.iaload, 1) := by decide +kernel
theorem dX4_alone_78 : decode cX4_alone 78 = .ok (.iadd, 1) := by decide +kernel
theorem dX4_alone_79 : decode cX4_alone 79 = .ok (.istore_n 2, 1) := by decide +kernel
theorem dX4_alone_80 : decode cX4_alone 80 = .ok (.iinc 3 1, 3) := by decide +kernel
theorem dX4_alone_83 : decode cX4_alone 83 = .ok (.goto (-59), 3) := by decide +kernel
theorem dX4_alone_86 : decode cX4_alone 86 = .ok (.iload_n 2, 1) := by decide +kernel
theorem dX4_alone_87 : decode cX4_alone 87 = .ok (.ireturn, 1) := by decide +kernel
theorem dX4_count_0 : decode cX4_count 0 = .ok (.iload_n 1, 1) := by decide +kernel
theorem dX4_count_1 : decode cX4_count 1 = .ok (.tableswitch 87 0 4 #[35, 43, 51, 59, 71], 35) := by decide +kernel
theorem dX4_count_36 : decode cX4_count 36 = .ok (.aload_n 0, 1) := by decide +kernel
theorem dX4_count_37 : decode cX4_count 37 = .ok (.getfield 12, 3) := by decide +kernel
theorem dX4_count_40 : decode cX4_count 40 = .ok (.getfield 48, 3) := by decide +kernel
theorem dX4_count_43 : decode cX4_count 43 = .ok (.ireturn, 1) := by decide +kernel
theorem dX4_count_44 : decode cX4_count 44 = .ok (.aload_n 0, 1) := by decide +kernel
theorem dX4_count_45 : decode cX4_count 45 = .ok (.getfield 12, 3) := by decide +kernel
theorem dX4_count_48 : decode cX4_count 48 = .ok (.getfield 71, 3) := by decide +kernel
theorem dX4_count_51 : decode cX4_count 51 = .ok (.ireturn, 1) := by decide +kernel
theorem dX4_count_52 : decode cX4_count 52 = .ok (.aload_n 0, 1) := by decide +kernel
theorem dX4_count_53 : decode cX4_count 53 = .ok (.getfield 12, 3) := by decide +kernel
theorem dX4_count_56 : decode cX4_count 56 = .ok (.getfield 134, 3) := by decide +kernel
theorem dX4_count_59 : decode cX4_count 59 = .ok (.ireturn, 1) := by decide +kernel
theorem dX4_count_60 : decode cX4_count 60 = .ok (.aload_n 0, 1) := by decide +kernel
theorem dX4_count_61 : decode cX4_count 61 = .ok (.getfield 19, 3) := by decide +kernel
theorem dX4_count_64 : decode cX4_count 64 = .ok (.aload_n 0, 1) := by decide +kernel
theorem dX4_count_65 : decode cX4_count 65 = .ok (.getfield 12, 3) := by decide +kernel
theorem dX4_count_68 : decode cX4_count 68 = .ok (.invokevirtual 183, 3) := by decide +kernel
theorem dX4_count_71 : decode cX4_count 71 = .ok (.ireturn, 1) := by decide +kernel
theorem dX4_count_72 : decode cX4_count 72 = .ok (.aload_n 0, 1) := by decide +kernel
theorem dX4_count_73 : decode cX4_count 73 = .ok (.invokevirtual 114, 3) := by decide +kernel
theorem dX4_count_76 : decode cX4_count 76 = .ok (.aload_n 0, 1) := by decide +kernel
theorem dX4_count_77 : decode cX4_count 77 = .ok (.getfield 33, 3) := by decide +kernel
theorem dX4_count_80 : decode cX4_count 80 = .ok (.aload_n 0, 1) := by decide +kernel
theorem dX4_count_81 : decode cX4_count 81 = .ok (.getfield 12, 3) := by decide +kernel
theorem dX4_count_84 : decode cX4_count 84 = .ok (.invokevirtual 187, 3) := by decide +kernel
theorem dX4_count_87 : decode cX4_count 87 = .ok (.ireturn, 1) := by decide +kernel
theorem dX4_count_88 : decode cX4_count 88 = .ok (.iconst (-1), 1) := by decide +kernel
theorem dX4_count_89 : decode cX4_count 89 = .ok (.ireturn, 1) := by decide +kernel
theorem dX4_countsByPlay_0 : decode cX4_countsByPlay 0 = .ok (.aload_n 0, 1) := by decide +kernel
theorem dX4_countsByPlay_1 : decode cX4_countsByPlay 1 = .ok (.invokevirtual 114, 3) := by decide +kernel
theorem dX4_countsByPlay_4 : decode cX4_countsByPlay 4 = .ok (.lconst 0, 1) := by decide +kernel
theorem dX4_countsByPlay_5 : decode cX4_countsByPlay 5 = .ok (.lstore 5, 2) := by decide +kernel
theorem dX4_countsByPlay_7 : decode cX4_countsByPlay 7 = .ok (.iconst 0, 1) := by decide +kernel
theorem dX4_countsByPlay_8 : decode cX4_countsByPlay 8 = .ok (.istore 7, 2) := by decide +kernel
theorem dX4_countsByPlay_10 : decode cX4_countsByPlay 10 = .ok (.iload 7, 2) := by decide +kernel
theorem dX4_countsByPlay_12 : decode cX4_countsByPlay 12 = .ok (.aload_n 0, 1) := by decide +kernel
theorem dX4_countsByPlay_13 : decode cX4_countsByPlay 13 = .ok (.getfield 12, 3) := by decide +kernel
theorem dX4_countsByPlay_16 : decode cX4_countsByPlay 16 = .ok (.invokevirtual 126, 3) := by decide +kernel
theorem dX4_countsByPlay_19 : decode cX4_countsByPlay 19 = .ok (.if_icmp .ge 66, 3) := by decide +kernel
theorem dX4_countsByPlay_22 : decode cX4_countsByPlay 22 = .ok (.aload_n 0, 1) := by decide +kernel
theorem dX4_countsByPlay_23 : decode cX4_countsByPlay 23 = .ok (.getfield 12, 3) := by decide +kernel
theorem dX4_countsByPlay_26 : decode cX4_countsByPlay 26 = .ok (.getfield 180, 3) := by decide +kernel
theorem dX4_countsByPlay_29 : decode cX4_countsByPlay 29 = .ok (.iload 7, 2) := by decide +kernel
theorem dX4_countsByPlay_31 : decode cX4_countsByPlay 31 = .ok (.iaload, 1) := by decide +kernel
theorem dX4_countsByPlay_32 : decode cX4_countsByPlay 32 = .ok (.iload_n 1, 1) := by decide +kernel
theorem dX4_countsByPlay_33 : decode cX4_countsByPlay 33 = .ok (.if_icmp .ne 46, 3) := by decide +kernel
theorem dX4_countsByPlay_36 : decode cX4_countsByPlay 36 = .ok (.lload 5, 2) := by decide +kernel
theorem dX4_countsByPlay_38 : decode cX4_countsByPlay 38 = .ok (.aload_n 0, 1) := by decide +kernel
theorem dX4_countsByPlay_39 : decode cX4_countsByPlay 39 = .ok (.getfield 33, 3) := by decide +kernel
theorem dX4_countsByPlay_42 : decode cX4_countsByPlay 42 = .ok (.getfield 117, 3) := by decide +kernel
theorem dX4_countsByPlay_45 : decode cX4_countsByPlay 45 = .ok (.iload 7, 2) := by decide +kernel
theorem dX4_countsByPlay_47 : decode cX4_countsByPlay 47 = .ok (.iaload, 1) := by decide +kernel
theorem dX4_countsByPlay_48 : decode cX4_countsByPlay 48 = .ok (.aload_n 0, 1) := by decide +kernel
theorem dX4_countsByPlay_49 : decode cX4_countsByPlay 49 = .ok (.getfield 33, 3) := by decide +kernel
theorem dX4_countsByPlay_52 : decode cX4_countsByPlay 52 = .ok (.getfield 120, 3) := by decide +kernel
theorem dX4_countsByPlay_55 : decode cX4_countsByPlay 55 = .ok (.iload 7, 2) := by decide +kernel
theorem dX4_countsByPlay_57 : decode cX4_countsByPlay 57 = .ok (.iaload, 1) := by decide +kernel
theorem dX4_countsByPlay_58 : decode cX4_countsByPlay 58 = .ok (.aload_n 0, 1) := by decide +kernel
theorem dX4_countsByPlay_59 : decode cX4_countsByPlay 59 = .ok (.getfield 33, 3) := by decide +kernel
theorem dX4_countsByPlay_62 : decode cX4_countsByPlay 62 = .ok (.getfield 123, 3) := by decide +kernel
theorem dX4_countsByPlay_65 : decode cX4_countsByPlay 65 = .ok (.iload 7, 2) := by decide +kernel
theorem dX4_countsByPlay_67 : decode cX4_countsByPlay 67 = .ok (.iaload, 1) := by decide +kernel
theorem dX4_countsByPlay_68 : decode cX4_countsByPlay 68 = .ok (.iload_n 2, 1) := by decide +kernel
theorem dX4_countsByPlay_69 : decode cX4_countsByPlay 69 = .ok (.iload_n 3, 1) := by decide +kernel
theorem dX4_countsByPlay_70 : decode cX4_countsByPlay 70 = .ok (.iload 4, 2) := by decide +kernel
theorem dX4_countsByPlay_72 : decode cX4_countsByPlay 72 = .ok (.invokestatic 190, 3) := by decide +kernel
theorem dX4_countsByPlay_75 : decode cX4_countsByPlay 75 = .ok (.i2l, 1) := by decide +kernel
theorem dX4_countsByPlay_76 : decode cX4_countsByPlay 76 = .ok (.ladd, 1) := by decide +kernel
theorem dX4_countsByPlay_77 : decode cX4_countsByPlay 77 = .ok (.lstore 5, 2) := by decide +kernel
theorem dX4_countsByPlay_79 : decode cX4_countsByPlay 79 = .ok (.iinc 7 1, 3) := by decide +kernel
theorem dX4_countsByPlay_82 : decode cX4_countsByPlay 82 = .ok (.goto (-72), 3) := by decide +kernel
theorem dX4_countsByPlay_85 : decode cX4_countsByPlay 85 = .ok (.lload 5, 2) := by decide +kernel
theorem dX4_countsByPlay_87 : decode cX4_countsByPlay 87 = .ok (.lreturn, 1) := by decide +kernel
theorem dX4_countsByTracks_0 : decode cX4_countsByTracks 0 = .ok (.lconst 0, 1) := by decide +kernel
theorem dX4_countsByTracks_1 : decode cX4_countsByTracks 1 = .ok (.lstore 5, 2) := by decide +kernel
theorem dX4_countsByTracks_3 : decode cX4_countsByTracks 3 = .ok (.iconst 0, 1) := by decide +kernel
theorem dX4_countsByTracks_4 : decode cX4_countsByTracks 4 = .ok (.istore 7, 2) := by decide +kernel
theorem dX4_countsByTracks_6 : decode cX4_countsByTracks 6 = .ok (.iload 7, 2) := by decide +kernel
theorem dX4_countsByTracks_8 : decode cX4_countsByTracks 8 = .ok (.aload_n 0, 1) := by decide +kernel
theorem dX4_countsByTracks_9 : decode cX4_countsByTracks 9 = .ok (.getfield 12, 3) := by decide +kernel
theorem dX4_countsByTracks_12 : decode cX4_countsByTracks 12 = .ok (.invokevirtual 126, 3) := by decide +kernel
theorem dX4_countsByTracks_15 : decode cX4_countsByTracks 15 = .ok (.if_icmp .ge 83, 3) := by decide +kernel
theorem dX4_countsByTracks_18 : decode cX4_countsByTracks 18 = .ok (.aload_n 0, 1) := by decide +kernel
theorem dX4_countsByTracks_19 : decode cX4_countsByTracks 19 = .ok (.getfield 12, 3) := by decide +kernel
theorem dX4_countsByTracks_22 : decode cX4_countsByTracks 22 = .ok (.getfield 180, 3) := by decide +kernel
theorem dX4_countsByTracks_25 : decode cX4_countsByTracks 25 = .ok (.iload 7, 2) := by decide +kernel
theorem dX4_countsByTracks_27 : decode cX4_countsByTracks 27 = .ok (.iaload, 1) := by decide +kernel
theorem dX4_countsByTracks_28 : decode cX4_countsByTracks 28 = .ok (.iload_n 1, 1) := by decide +kernel
theorem dX4_countsByTracks_29 : decode cX4_countsByTracks 29 = .ok (.if_icmp .ne 19, 3) := by decide +kernel
theorem dX4_countsByTracks_32 : decode cX4_countsByTracks 32 = .ok (.aload_n 0, 1) := by decide +kernel
theorem dX4_countsByTracks_33 : decode cX4_countsByTracks 33 = .ok (.getfield 19, 3) := by decide +kernel
theorem dX4_countsByTracks_36 : decode cX4_countsByTracks 36 = .ok (.aload_n 0, 1) := by decide +kernel
theorem dX4_countsByTracks_37 : decode cX4_countsByTracks 37 = .ok (.getfield 12, 3) := by decide +kernel
theorem dX4_countsByTracks_40 : decode cX4_countsByTracks 40 = .ok (.iload 7, 2) := by decide +kernel
theorem dX4_countsByTracks_42 : decode cX4_countsByTracks 42 = .ok (.invokevirtual 194, 3) := by decide +kernel
theorem dX4_countsByTracks_45 : decode cX4_countsByTracks 45 = .ok (.goto 4, 3) := by decide +kernel
theorem dX4_countsByTracks_48 : decode cX4_countsByTracks 48 = .ok (.iconst (-1), 1) := by decide +kernel
theorem dX4_countsByTracks_49 : decode cX4_countsByTracks 49 = .ok (.istore 8, 2) := by decide +kernel
theorem dX4_countsByTracks_51 : decode cX4_countsByTracks 51 = .ok (.iload 8, 2) := by decide +kernel
theorem dX4_countsByTracks_53 : decode cX4_countsByTracks 53 = .ok (.iconst (-1), 1) := by decide +kernel
theorem dX4_countsByTracks_54 : decode cX4_countsByTracks 54 = .ok (.if_icmp .eq 38, 3) := by decide +kernel
theorem dX4_countsByTracks_57 : decode cX4_countsByTracks 57 = .ok (.lload 5, 2) := by decide +kernel
theorem dX4_countsByTracks_59 : decode cX4_countsByTracks 59 = .ok (.iload 8, 2) := by decide +kernel
theorem dX4_countsByTracks_61 : decode cX4_countsByTracks 61 = .ok (.aload_n 0, 1) := by decide +kernel
theorem dX4_countsByTracks_62 : decode cX4_countsByTracks 62 = .ok (.getfield 19, 3) := by decide +kernel
theorem dX4_countsByTracks_65 : decode cX4_countsByTracks 65 = .ok (.getfield 137, 3) := by decide +kernel
theorem dX4_countsByTracks_68 : decode cX4_countsByTracks 68 = .ok (.iload 7, 2) := by decide +kernel
theorem dX4_countsByTracks_70 : decode cX4_countsByTracks 70 = .ok (.iaload, 1) := by decide +kernel
theorem dX4_countsByTracks_71 : decode cX4_countsByTracks 71 = .ok (.aload_n 0, 1) := by decide +kernel
theorem dX4_countsByTracks_72 : decode cX4_countsByTracks 72 = .ok (.getfield 19, 3) := by decide +kernel
theorem dX4_countsByTracks_75 : decode cX4_countsByTracks 75 = .ok (.getfield 138, 3) := by decide +kernel
theorem dX4_countsByTracks_78 : decode cX4_countsByTracks 78 = .ok (.iload 7, 2) := by decide +kernel
theorem dX4_countsByTracks_80 : decode cX4_countsByTracks 80 = .ok (.iaload, 1) := by decide +kernel
theorem dX4_countsByTracks_81 : decode cX4_countsByTracks 81 = .ok (.iload_n 2, 1) := by decide +kernel
theorem dX4_countsByTracks_82 : decode cX4_countsByTracks 82 = .ok (.iload_n 3, 1) := by decide +kernel
theorem dX4_countsByTracks_83 : decode cX4_countsByTracks 83 = .ok (.iload 4, 2) := by decide +kernel
theorem dX4_countsByTracks_85 : decode cX4_countsByTracks 85 = .ok (.invokestatic 190, 3) := by decide +kernel
theorem dX4_countsByTracks_88 : decode cX4_countsByTracks 88 = .ok (.i2l, 1) := by decide +kernel
theorem dX4_countsByTracks_89 : decode cX4_countsByTracks 89 = .ok (.ladd, 1) := by decide +kernel
theorem dX4_countsByTracks_90 : decode cX4_countsByTracks 90 = .ok (.lstore 5, 2) := by decide +kernel
theorem dX4_countsByTracks_92 : decode cX4_countsByTracks 92 = .ok (.iinc 7 1, 3) := by decide +kernel
theorem dX4_countsByTracks_95 : decode cX4_countsByTracks 95 = .ok (.goto (-89), 3) := by decide +kernel
theorem dX4_countsByTracks_98 : decode cX4_countsByTracks 98 = .ok (.lload 5, 2) := by decide +kernel
theorem dX4_countsByTracks_100 : decode cX4_countsByTracks 100 = .ok (.lreturn, 1) := by decide +kernel
theorem dX4_share_0 : decode cX4_share 0 = .ok (.iload 5, 2) := by decide +kernel
theorem dX4_share_2 : decode cX4_share 2 = .ok (.tableswitch 69 0 2 #[26, 43, 60], 26) := by decide +kernel
theorem dX4_share_28 : decode cX4_share 28 = .ok (.iload_n 0, 1) := by decide +kernel
theorem dX4_share_29 : decode cX4_share 29 = .ok (.iload_n 3, 1) := by decide +kernel
theorem dX4_share_30 : decode cX4_share 30 = .ok (.if_icmp .lt 13, 3) := by decide +kernel
theorem dX4_share_33 : decode cX4_share 33 = .ok (.iload_n 0, 1) := by decide +kernel
theorem dX4_share_34 : decode cX4_share 34 = .ok (.iload 4, 2) := by decide +kernel
theorem dX4_share_36 : decode cX4_share 36 = .ok (.if_icmp .ge 7, 3) := by decide +kernel
theorem dX4_share_39 : decode cX4_share 39 = .ok (.iconst 1, 1) := by decide +kernel
theorem dX4_share_40 : decode cX4_share 40 = .ok (.goto 4, 3) := by decide +kernel
theorem dX4_share_43 : decode cX4_share 43 = .ok (.iconst 0, 1) := by decide +kernel
theorem dX4_share_44 : decode cX4_share 44 = .ok (.ireturn, 1) := by decide +kernel
theorem dX4_share_45 : decode cX4_share 45 = .ok (.iload_n 2, 1) := by decide +kernel
theorem dX4_share_46 : decode cX4_share 46 = .ok (.iload_n 3, 1) := by decide +kernel
theorem dX4_share_47 : decode cX4_share 47 = .ok (.if_icmp .lt 13, 3) := by decide +kernel
theorem dX4_share_50 : decode cX4_share 50 = .ok (.iload_n 2, 1) := by decide +kernel
theorem dX4_share_51 : decode cX4_share 51 = .ok (.iload 4, 2) := by decide +kernel
theorem dX4_share_53 : decode cX4_share 53 = .ok (.if_icmp .ge 7, 3) := by decide +kernel
theorem dX4_share_56 : decode cX4_share 56 = .ok (.iconst 1, 1) := by decide +kernel
theorem dX4_share_57 : decode cX4_share 57 = .ok (.goto 4, 3) := by decide +kernel
theorem dX4_share_60 : decode cX4_share 60 = .ok (.iconst 0, 1) := by decide +kernel
theorem dX4_share_61 : decode cX4_share 61 = .ok (.ireturn, 1) := by decide +kernel
theorem dX4_share_62 : decode cX4_share 62 = .ok (.iload_n 0, 1) := by decide +kernel
theorem dX4_share_63 : decode cX4_share 63 = .ok (.iload_n 2, 1) := by decide +kernel
theorem dX4_share_64 : decode cX4_share 64 = .ok (.iload_n 3, 1) := by decide +kernel
theorem dX4_share_65 : decode cX4_share 65 = .ok (.iload 4, 2) := by decide +kernel
theorem dX4_share_67 : decode cX4_share 67 = .ok (.invokestatic 198, 3) := by decide +kernel
theorem dX4_share_70 : decode cX4_share 70 = .ok (.ireturn, 1) := by decide +kernel
theorem dX4_share_71 : decode cX4_share 71 = .ok (.iload_n 1, 1) := by decide +kernel
theorem dX4_share_72 : decode cX4_share 72 = .ok (.iload_n 2, 1) := by decide +kernel
theorem dX4_share_73 : decode cX4_share 73 = .ok (.iload_n 3, 1) := by decide +kernel
theorem dX4_share_74 : decode cX4_share 74 = .ok (.iload 4, 2) := by decide +kernel
theorem dX4_share_76 : decode cX4_share 76 = .ok (.invokestatic 198, 3) := by decide +kernel
theorem dX4_share_79 : decode cX4_share 79 = .ok (.ireturn, 1) := by decide +kernel
theorem dX4_ticksShared_0 : decode cX4_ticksShared 0 = .ok (.iconst 0, 1) := by decide +kernel
theorem dX4_ticksShared_1 : decode cX4_ticksShared 1 = .ok (.iload_n 1, 1) := by decide +kernel
theorem dX4_ticksShared_2 : decode cX4_ticksShared 2 = .ok (.iload_n 3, 1) := by decide +kernel
theorem dX4_ticksShared_3 : decode cX4_ticksShared 3 = .ok (.invokestatic 202, 3) := by decide +kernel
theorem dX4_ticksShared_6 : decode cX4_ticksShared 6 = .ok (.iload_n 0, 1) := by decide +kernel
theorem dX4_ticksShared_7 : decode cX4_ticksShared 7 = .ok (.iload_n 2, 1) := by decide +kernel
theorem dX4_ticksShared_8 : decode cX4_ticksShared 8 = .ok (.invokestatic 207, 3) := by decide +kernel
theorem dX4_ticksShared_11 : decode cX4_ticksShared 11 = .ok (.isub, 1) := by decide +kernel
theorem dX4_ticksShared_12 : decode cX4_ticksShared 12 = .ok (.invokestatic 207, 3) := by decide +kernel
theorem dX4_ticksShared_15 : decode cX4_ticksShared 15 = .ok (.ireturn, 1) := by decide +kernel
theorem dX4_gainAt_0 : decode cX4_gainAt 0 = .ok (.aload_n 0, 1) := by decide +kernel
theorem dX4_gainAt_1 : decode cX4_gainAt 1 = .ok (.getfield 37, 3) := by decide +kernel
theorem dX4_gainAt_4 : decode cX4_gainAt 4 = .ok (.aload_n 0, 1) := by decide +kernel
theorem dX4_gainAt_5 : decode cX4_gainAt 5 = .ok (.getfield 12, 3) := by decide +kernel
theorem dX4_gainAt_8 : decode cX4_gainAt 8 = .ok (.iload_n 1, 1) := by decide +kernel
theorem dX4_gainAt_9 : decode cX4_gainAt 9 = .ok (.invokevirtual 210, 3) := by decide +kernel
theorem dX4_gainAt_12 : decode cX4_gainAt 12 = .ok (.aload_n 0, 1) := by decide +kernel
theorem dX4_gainAt_13 : decode cX4_gainAt 13 = .ok (.getfield 33, 3) := by decide +kernel
theorem dX4_gainAt_16 : decode cX4_gainAt 16 = .ok (.aload_n 0, 1) := by decide +kernel
theorem dX4_gainAt_17 : decode cX4_gainAt 17 = .ok (.getfield 12, 3) := by decide +kernel
theorem dX4_gainAt_20 : decode cX4_gainAt 20 = .ok (.invokevirtual 159, 3) := by decide +kernel
theorem dX4_gainAt_23 : decode cX4_gainAt 23 = .ok (.aload_n 0, 1) := by decide +kernel
theorem dX4_gainAt_24 : decode cX4_gainAt 24 = .ok (.getfield 37, 3) := by decide +kernel
theorem dX4_gainAt_27 : decode cX4_gainAt 27 = .ok (.aload_n 0, 1) := by decide +kernel
theorem dX4_gainAt_28 : decode cX4_gainAt 28 = .ok (.getfield 12, 3) := by decide +kernel
theorem dX4_gainAt_31 : decode cX4_gainAt 31 = .ok (.invokevirtual 159, 3) := by decide +kernel
theorem dX4_gainAt_34 : decode cX4_gainAt 34 = .ok (.lsub, 1) := by decide +kernel
theorem dX4_gainAt_35 : decode cX4_gainAt 35 = .ok (.lreturn, 1) := by decide +kernel
theorem dX4_refreshPlay_0 : decode cX4_refreshPlay 0 = .ok (.aload_n 0, 1) := by decide +kernel
theorem dX4_refreshPlay_1 : decode cX4_refreshPlay 1 = .ok (.getfield 40, 3) := by decide +kernel
theorem dX4_refreshPlay_4 : decode cX4_refreshPlay 4 = .ok (.ifCond .ne 20, 3) := by decide +kernel
theorem dX4_refreshPlay_7 : decode cX4_refreshPlay 7 = .ok (.aload_n 0, 1) := by decide +kernel
theorem dX4_refreshPlay_8 : decode cX4_refreshPlay 8 = .ok (.getfield 33, 3) := by decide +kernel
theorem dX4_refreshPlay_11 : decode cX4_refreshPlay 11 = .ok (.aload_n 0, 1) := by decide +kernel
theorem dX4_refreshPlay_12 : decode cX4_refreshPlay 12 = .ok (.getfield 12, 3) := by decide +kernel
theorem dX4_refreshPlay_15 : decode cX4_refreshPlay 15 = .ok (.iconst (-1), 1) := by decide +kernel
theorem dX4_refreshPlay_16 : decode cX4_refreshPlay 16 = .ok (.invokevirtual 210, 3) := by decide +kernel
theorem dX4_refreshPlay_19 : decode cX4_refreshPlay 19 = .ok (.aload_n 0, 1) := by decide +kernel
theorem dX4_refreshPlay_20 : decode cX4_refreshPlay 20 = .ok (.iconst 1, 1) := by decide +kernel
theorem dX4_refreshPlay_21 : decode cX4_refreshPlay 21 = .ok (.putfield 40, 3) := by decide +kernel
theorem dX4_refreshPlay_24 : decode cX4_refreshPlay 24 = .ok (.return_, 1) := by decide +kernel
theorem dX4_needPlace_0 : decode cX4_needPlace 0 = .ok (.iload_n 1, 1) := by decide +kernel
theorem dX4_needPlace_1 : decode cX4_needPlace 1 = .ok (.ifCond .lt 14, 3) := by decide +kernel
theorem dX4_needPlace_4 : decode cX4_needPlace 4 = .ok (.iload_n 1, 1) := by decide +kernel
theorem dX4_needPlace_5 : decode cX4_needPlace 5 = .ok (.aload_n 0, 1) := by decide +kernel
theorem dX4_needPlace_6 : decode cX4_needPlace 6 = .ok (.getfield 12, 3) := by decide +kernel
theorem dX4_needPlace_9 : decode cX4_needPlace 9 = .ok (.getfield 48, 3) := by decide +kernel
theorem dX4_needPlace_12 : decode cX4_needPlace 12 = .ok (.if_icmp .lt 13, 3) := by decide +kernel
theorem dX4_needPlace_15 : decode cX4_needPlace 15 = .ok (.new 214, 3) := by decide +kernel
theorem dX4_needPlace_18 : decode cX4_needPlace 18 = .ok (.dup, 1) := by decide +kernel
theorem dX4_needPlace_19 : decode cX4_needPlace 19 = .ok (.ldc 216, 2) := by decide +kernel
theorem dX4_needPlace_21 : decode cX4_needPlace 21 = .ok (.invokespecial 218, 3) := by decide +kernel
theorem dX4_needPlace_24 : decode cX4_needPlace 24 = .ok (.athrow, 1) := by decide +kernel
theorem dX4_needPlace_25 : decode cX4_needPlace 25 = .ok (.return_, 1) := by decide +kernel
theorem dX4_needAsk_0 : decode cX4_needAsk 0 = .ok (.iload_n 1, 1) := by decide +kernel
theorem dX4_needAsk_1 : decode cX4_needAsk 1 = .ok (.ifCond .lt 14, 3) := by decide +kernel
theorem dX4_needAsk_4 : decode cX4_needAsk 4 = .ok (.iload_n 1, 1) := by decide +kernel
theorem dX4_needAsk_5 : decode cX4_needAsk 5 = .ok (.aload_n 0, 1) := by decide +kernel
theorem dX4_needAsk_6 : decode cX4_needAsk 6 = .ok (.getfield 12, 3) := by decide +kernel
theorem dX4_needAsk_9 : decode cX4_needAsk 9 = .ok (.getfield 71, 3) := by decide +kernel
theorem dX4_needAsk_12 : decode cX4_needAsk 12 = .ok (.if_icmp .lt 13, 3) := by decide +kernel
theorem dX4_needAsk_15 : decode cX4_needAsk 15 = .ok (.new 214, 3) := by decide +kernel
theorem dX4_needAsk_18 : decode cX4_needAsk 18 = .ok (.dup, 1) := by decide +kernel
theorem dX4_needAsk_19 : decode cX4_needAsk 19 = .ok (.ldc 219, 2) := by decide +kernel
theorem dX4_needAsk_21 : decode cX4_needAsk 21 = .ok (.invokespecial 218, 3) := by decide +kernel
theorem dX4_needAsk_24 : decode cX4_needAsk 24 = .ok (.athrow, 1) := by decide +kernel
theorem dX4_needAsk_25 : decode cX4_needAsk 25 = .ok (.return_, 1) := by decide +kernel
theorem dX4_needStep_0 : decode cX4_needStep 0 = .ok (.aload_n 0, 1) := by decide +kernel
theorem dX4_needStep_1 : decode cX4_needStep 1 = .ok (.iload_n 1, 1) := by decide +kernel
theorem dX4_needStep_2 : decode cX4_needStep 2 = .ok (.invokevirtual 87, 3) := by decide +kernel
theorem dX4_needStep_5 : decode cX4_needStep 5 = .ok (.iload_n 2, 1) := by decide +kernel
theorem dX4_needStep_6 : decode cX4_needStep 6 = .ok (.ifCond .lt 16, 3) := by decide +kernel
theorem dX4_needStep_9 : decode cX4_needStep 9 = .ok (.iload_n 2, 1) := by decide +kernel
theorem dX4_needStep_10 : decode cX4_needStep 10 = .ok (.aload_n 0, 1) := by decide +kernel
theorem dX4_needStep_11 : decode cX4_needStep 11 = .ok (.getfield 12, 3) := by decide +kernel
theorem dX4_needStep_14 : decode cX4_needStep 14 = .ok (.getfield 90, 3) := by decide +kernel
theorem dX4_needStep_17 : decode cX4_needStep 17 = .ok (.iload_n 1, 1) := by decide +kernel
theorem dX4_needStep_18 : decode cX4_needStep 18 = .ok (.iaload, 1) := by decide +kernel
theorem dX4_needStep_19 : decode cX4_needStep 19 = .ok (.if_icmp .lt 13, 3) := by decide +kernel
theorem dX4_needStep_22 : decode cX4_needStep 22 = .ok (.new 214, 3) := by decide +kernel
theorem dX4_needStep_25 : decode cX4_needStep 25 = .ok (.dup, 1) := by decide +kernel
theorem dX4_needStep_26 : decode cX4_needStep 26 = .ok (.ldc 221, 2) := by decide +kernel
theorem dX4_needStep_28 : decode cX4_needStep 28 = .ok (.invokespecial 218, 3) := by decide +kernel
theorem dX4_needStep_31 : decode cX4_needStep 31 = .ok (.athrow, 1) := by decide +kernel
theorem dX4_needStep_32 : decode cX4_needStep 32 = .ok (.aload_n 0, 1) := by decide +kernel
theorem dX4_needStep_33 : decode cX4_needStep 33 = .ok (.getfield 12, 3) := by decide +kernel
theorem dX4_needStep_36 : decode cX4_needStep 36 = .ok (.iload_n 1, 1) := by decide +kernel
theorem dX4_needStep_37 : decode cX4_needStep 37 = .ok (.invokevirtual 167, 3) := by decide +kernel
theorem dX4_needStep_40 : decode cX4_needStep 40 = .ok (.iload_n 2, 1) := by decide +kernel
theorem dX4_needStep_41 : decode cX4_needStep 41 = .ok (.iadd, 1) := by decide +kernel
theorem dX4_needStep_42 : decode cX4_needStep 42 = .ok (.ireturn, 1) := by decide +kernel
theorem dX4_needPlaceNumbers_0 : decode cX4_needPlaceNumbers 0 = .ok (.iload_n 0, 1) := by decide +kernel
theorem dX4_needPlaceNumbers_1 : decode cX4_needPlaceNumbers 1 = .ok (.iconst 1, 1) := by decide +kernel
theorem dX4_needPlaceNumbers_2 : decode cX4_needPlaceNumbers 2 = .ok (.bipush 8, 2) := by decide +kernel
theorem dX4_needPlaceNumbers_4 : decode cX4_needPlaceNumbers 4 = .ok (.invokestatic 67, 3) := by decide +kernel
theorem dX4_needPlaceNumbers_7 : decode cX4_needPlaceNumbers 7 = .ok (.iload_n 1, 1) := by decide +kernel
theorem dX4_needPlaceNumbers_8 : decode cX4_needPlaceNumbers 8 = .ok (.iconst 0, 1) := by decide +kernel
theorem dX4_needPlaceNumbers_9 : decode cX4_needPlaceNumbers 9 = .ok (.iconst 3, 1) := by decide +kernel
theorem dX4_needPlaceNumbers_10 : decode cX4_needPlaceNumbers 10 = .ok (.invokestatic 67, 3) := by decide +kernel
theorem dX4_needPlaceNumbers_13 : decode cX4_needPlaceNumbers 13 = .ok (.iload_n 2, 1) := by decide +kernel
theorem dX4_needPlaceNumbers_14 : decode cX4_needPlaceNumbers 14 = .ok (.iconst 0, 1) := by decide +kernel
theorem dX4_needPlaceNumbers_15 : decode cX4_needPlaceNumbers 15 = .ok (.sipush 1000, 3) := by decide +kernel
theorem dX4_needPlaceNumbers_18 : decode cX4_needPlaceNumbers 18 = .ok (.invokestatic 67, 3) := by decide +kernel
theorem dX4_needPlaceNumbers_21 : decode cX4_needPlaceNumbers 21 = .ok (.return_, 1) := by decide +kernel
theorem dX4_needWithin_0 : decode cX4_needWithin 0 = .ok (.iload_n 0, 1) := by decide +kernel
theorem dX4_needWithin_1 : decode cX4_needWithin 1 = .ok (.iload_n 1, 1) := by decide +kernel
theorem dX4_needWithin_2 : decode cX4_needWithin 2 = .ok (.if_icmp .lt 8, 3) := by decide +kernel
theorem dX4_needWithin_5 : decode cX4_needWithin 5 = .ok (.iload_n 0, 1) := by decide +kernel
theorem dX4_needWithin_6 : decode cX4_needWithin 6 = .ok (.iload_n 2, 1) := by decide +kernel
theorem dX4_needWithin_7 : decode cX4_needWithin 7 = .ok (.if_icmp .le 13, 3) := by decide +kernel
theorem dX4_needWithin_10 : decode cX4_needWithin 10 = .ok (.new 98, 3) := by decide +kernel
theorem dX4_needWithin_13 : decode cX4_needWithin 13 = .ok (.dup, 1) := by decide +kernel
theorem dX4_needWithin_14 : decode cX4_needWithin 14 = .ok (.ldc 223, 2) := by decide +kernel
theorem dX4_needWithin_16 : decode cX4_needWithin 16 = .ok (.invokespecial 102, 3) := by decide +kernel
theorem dX4_needWithin_19 : decode cX4_needWithin 19 = .ok (.athrow, 1) := by decide +kernel
theorem dX4_needWithin_20 : decode cX4_needWithin 20 = .ok (.return_, 1) := by decide +kernel
theorem dX4_needWhat_0 : decode cX4_needWhat 0 = .ok (.iload_n 0, 1) := by decide +kernel
theorem dX4_needWhat_1 : decode cX4_needWhat 1 = .ok (.ifCond .lt 8, 3) := by decide +kernel
theorem dX4_needWhat_4 : decode cX4_needWhat 4 = .ok (.iload_n 0, 1) := by decide +kernel
theorem dX4_needWhat_5 : decode cX4_needWhat 5 = .ok (.iload_n 1, 1) := by decide +kernel
theorem dX4_needWhat_6 : decode cX4_needWhat 6 = .ok (.if_icmp .le 13, 3) := by decide +kernel
theorem dX4_needWhat_9 : decode cX4_needWhat 9 = .ok (.new 225, 3) := by decide +kernel
theorem dX4_needWhat_12 : decode cX4_needWhat 12 = .ok (.dup, 1) := by decide +kernel
theorem dX4_needWhat_13 : decode cX4_needWhat 13 = .ok (.ldc 227, 2) := by decide +kernel
theorem dX4_needWhat_15 : decode cX4_needWhat 15 = .ok (.invokespecial 229, 3) := by decide +kernel
theorem dX4_needWhat_18 : decode cX4_needWhat 18 = .ok (.athrow, 1) := by decide +kernel
theorem dX4_needWhat_19 : decode cX4_needWhat 19 = .ok (.return_, 1) := by decide +kernel
theorem dX4_rank_0 : decode cX4_rank 0 = .ok (.iload_n 0, 1) := by decide +kernel
theorem dX4_rank_1 : decode cX4_rank 1 = .ok (.tableswitch 51 1 3 #[27, 31, 41], 27) := by decide +kernel
theorem dX4_rank_28 : decode cX4_rank 28 = .ok (.iload_n 1, 1) := by decide +kernel
theorem dX4_rank_29 : decode cX4_rank 29 = .ok (.i2l, 1) := by decide +kernel
theorem dX4_rank_30 : decode cX4_rank 30 = .ok (.lneg, 1) := by decide +kernel
theorem dX4_rank_31 : decode cX4_rank 31 = .ok (.lreturn, 1) := by decide +kernel
theorem dX4_rank_32 : decode cX4_rank 32 = .ok (.iload_n 2, 1) := by decide +kernel
theorem dX4_rank_33 : decode cX4_rank 33 = .ok (.i2l, 1) := by decide +kernel
theorem dX4_rank_34 : decode cX4_rank 34 = .ok (.ldc2_w 230, 3) := by decide +kernel
theorem dX4_rank_37 : decode cX4_rank 37 = .ok (.lmul, 1) := by decide +kernel
theorem dX4_rank_38 : decode cX4_rank 38 = .ok (.iload_n 1, 1) := by decide +kernel
theorem dX4_rank_39 : decode cX4_rank 39 = .ok (.i2l, 1) := by decide +kernel
theorem dX4_rank_40 : decode cX4_rank 40 = .ok (.ladd, 1) := by decide +kernel
theorem dX4_rank_41 : decode cX4_rank 41 = .ok (.lreturn, 1) := by decide +kernel
theorem dX4_rank_42 : decode cX4_rank 42 = .ok (.iload_n 3, 1) := by decide +kernel
theorem dX4_rank_43 : decode cX4_rank 43 = .ok (.i2l, 1) := by decide +kernel
theorem dX4_rank_44 : decode cX4_rank 44 = .ok (.ldc2_w 230, 3) := by decide +kernel
theorem dX4_rank_47 : decode cX4_rank 47 = .ok (.lmul, 1) := by decide +kernel
theorem dX4_rank_48 : decode cX4_rank 48 = .ok (.iload_n 1, 1) := by decide +kernel
theorem dX4_rank_49 : decode cX4_rank 49 = .ok (.i2l, 1) := by decide +kernel
theorem dX4_rank_50 : decode cX4_rank 50 = .ok (.ladd, 1) := by decide +kernel
theorem dX4_rank_51 : decode cX4_rank 51 = .ok (.lreturn, 1) := by decide +kernel
theorem dX4_rank_52 : decode cX4_rank 52 = .ok (.iload_n 1, 1) := by decide +kernel
theorem dX4_rank_53 : decode cX4_rank 53 = .ok (.i2l, 1) := by decide +kernel
theorem dX4_rank_54 : decode cX4_rank 54 = .ok (.lreturn, 1) := by decide +kernel
theorem dX5_init_0 : decode cX5_init 0 = .ok (.aload_n 0, 1) := by decide +kernel
theorem dX5_init_1 : decode cX5_init 1 = .ok (.invokespecial 3, 3) := by decide +kernel
theorem dX5_init_4 : decode cX5_init 4 = .ok (.aload_n 0, 1) := by decide +kernel
theorem dX5_init_5 : decode cX5_init 5 = .ok (.iconst 5, 1) := by decide +kernel
theorem dX5_init_6 : decode cX5_init 6 = .ok (.newarray .int, 2) := by decide +kernel
theorem dX5_init_8 : decode cX5_init 8 = .ok (.putfield 9, 3) := by decide +kernel
theorem dX5_init_11 : decode cX5_init 11 = .ok (.aload_n 0, 1) := by decide +kernel
theorem dX5_init_12 : decode cX5_init 12 = .ok (.iconst 5, 1) := by decide +kernel
theorem dX5_init_13 : decode cX5_init 13 = .ok (.newarray .int, 2) := by decide +kernel
theorem dX5_init_15 : decode cX5_init 15 = .ok (.putfield 13, 3) := by decide +kernel
theorem dX5_init_18 : decode cX5_init 18 = .ok (.aload_n 0, 1) := by decide +kernel
theorem dX5_init_19 : decode cX5_init 19 = .ok (.iconst 5, 1) := by decide +kernel
theorem dX5_init_20 : decode cX5_init 20 = .ok (.newarray .int, 2) := by decide +kernel
theorem dX5_init_22 : decode cX5_init 22 = .ok (.putfield 16, 3) := by decide +kernel
theorem dX5_init_25 : decode cX5_init 25 = .ok (.aload_n 0, 1) := by decide +kernel
theorem dX5_init_26 : decode cX5_init 26 = .ok (.bipush 60, 2) := by decide +kernel
theorem dX5_init_28 : decode cX5_init 28 = .ok (.newarray .int, 2) := by decide +kernel
theorem dX5_init_30 : decode cX5_init 30 = .ok (.putfield 19, 3) := by decide +kernel
theorem dX5_init_33 : decode cX5_init 33 = .ok (.aload_n 0, 1) := by decide +kernel
theorem dX5_init_34 : decode cX5_init 34 = .ok (.bipush 60, 2) := by decide +kernel
theorem dX5_init_36 : decode cX5_init 36 = .ok (.newarray .int, 2) := by decide +kernel
theorem dX5_init_38 : decode cX5_init 38 = .ok (.putfield 22, 3) := by decide +kernel
theorem dX5_init_41 : decode cX5_init 41 = .ok (.aload_n 0, 1) := by decide +kernel
theorem dX5_init_42 : decode cX5_init 42 = .ok (.bipush 60, 2) := by decide +kernel
theorem dX5_init_44 : decode cX5_init 44 = .ok (.newarray .int, 2) := by decide +kernel
theorem dX5_init_46 : decode cX5_init 46 = .ok (.putfield 25, 3) := by decide +kernel
theorem dX5_init_49 : decode cX5_init 49 = .ok (.aload_n 0, 1) := by decide +kernel
theorem dX5_init_50 : decode cX5_init 50 = .ok (.sipush 300, 3) := by decide +kernel
theorem dX5_init_53 : decode cX5_init 53 = .ok (.newarray .int, 2) := by decide +kernel
theorem dX5_init_55 : decode cX5_init 55 = .ok (.putfield 28, 3) := by decide +kernel
theorem dX5_init_58 : decode cX5_init 58 = .ok (.aload_n 0, 1) := by decide +kernel
theorem dX5_init_59 : decode cX5_init 59 = .ok (.sipush 300, 3) := by decide +kernel
theorem dX5_init_62 : decode cX5_init 62 = .ok (.newarray .int, 2) := by decide +kernel
theorem dX5_init_64 : decode cX5_init 64 = .ok (.putfield 31, 3) := by decide +kernel
theorem dX5_init_67 : decode cX5_init 67 = .ok (.aload_n 0, 1) := by decide +kernel
theorem dX5_init_68 : decode cX5_init 68 = .ok (.sipush 300, 3) := by decide +kernel
theorem dX5_init_71 : decode cX5_init 71 = .ok (.newarray .boolean, 2) := by decide +kernel
theorem dX5_init_73 : decode cX5_init 73 = .ok (.putfield 34, 3) := by decide +kernel
theorem dX5_init_76 : decode cX5_init 76 = .ok (.aload_n 0, 1) := by decide +kernel
theorem dX5_init_77 : decode cX5_init 77 = .ok (.sipush 300, 3) := by decide +kernel
theorem dX5_init_80 : decode cX5_init 80 = .ok (.newarray .int, 2) := by decide +kernel
theorem dX5_init_82 : decode cX5_init 82 = .ok (.putfield 38, 3) := by decide +kernel
theorem dX5_init_85 : decode cX5_init 85 = .ok (.aload_n 0, 1) := by decide +kernel
theorem dX5_init_86 : decode cX5_init 86 = .ok (.sipush 300, 3) := by decide +kernel
theorem dX5_init_89 : decode cX5_init 89 = .ok (.newarray .int, 2) := by decide +kernel
theorem dX5_init_91 : decode cX5_init 91 = .ok (.putfield 41, 3) := by decide +kernel
theorem dX5_init_94 : decode cX5_init 94 = .ok (.aload_n 0, 1) := by decide +kernel
theorem dX5_init_95 : decode cX5_init 95 = .ok (.sipush 300, 3) := by decide +kernel
theorem dX5_init_98 : decode cX5_init 98 = .ok (.newarray .int, 2) := by decide +kernel
theorem dX5_init_100 : decode cX5_init 100 = .ok (.putfield 44, 3) := by decide +kernel
theorem dX5_init_103 : decode cX5_init 103 = .ok (.aload_n 0, 1) := by decide +kernel
theorem dX5_init_104 : decode cX5_init 104 = .ok (.sipush 300, 3) := by decide +kernel
theorem dX5_init_107 : decode cX5_init 107 = .ok (.newarray .int, 2) := by decide +kernel
theorem dX5_init_109 : decode cX5_init 109 = .ok (.putfield 47, 3) := by decide +kernel
theorem dX5_init_112 : decode cX5_init 112 = .ok (.aload_n 0, 1) := by decide +kernel
theorem dX5_init_113 : decode cX5_init 113 = .ok (.sipush 300, 3) := by decide +kernel
theorem dX5_init_116 : decode cX5_init 116 = .ok (.newarray .int, 2) := by decide +kernel
theorem dX5_init_118 : decode cX5_init 118 = .ok (.putfield 50, 3) := by decide +kernel
theorem dX5_init_121 : decode cX5_init 121 = .ok (.aload_n 0, 1) := by decide +kernel
theorem dX5_init_122 : decode cX5_init 122 = .ok (.sipush 300, 3) := by decide +kernel
theorem dX5_init_125 : decode cX5_init 125 = .ok (.newarray .boolean, 2) := by decide +kernel
theorem dX5_init_127 : decode cX5_init 127 = .ok (.putfield 53, 3) := by decide +kernel
theorem dX5_init_130 : decode cX5_init 130 = .ok (.aload_n 0, 1) := by decide +kernel
theorem dX5_init_131 : decode cX5_init 131 = .ok (.sipush 300, 3) := by decide +kernel
theorem dX5_init_134 : decode cX5_init 134 = .ok (.newarray .int, 2) := by decide +kernel
theorem dX5_init_136 : decode cX5_init 136 = .ok (.putfield 56, 3) := by decide +kernel
theorem dX5_init_139 : decode cX5_init 139 = .ok (.return_, 1) := by decide +kernel
theorem dX5_thrown_0 : decode cX5_thrown 0 = .ok (.aload_n 0, 1) := by decide +kernel
theorem dX5_thrown_1 : decode cX5_thrown 1 = .ok (.getfield 59, 3) := by decide +kernel
theorem dX5_thrown_4 : decode cX5_thrown 4 = .ok (.ireturn, 1) := by decide +kernel
theorem dX5_throwsIf_0 : decode cX5_throwsIf 0 = .ok (.iload_n 1, 1) := by decide +kernel
theorem dX5_throwsIf_1 : decode cX5_throwsIf 1 = .ok (.ifCond .eq 8, 3) := by decide +kernel
theorem dX5_throwsIf_4 : decode cX5_throwsIf 4 = .ok (.aload_n 0, 1) := by decide +kernel
theorem dX5_throwsIf_5 : decode cX5_throwsIf 5 = .ok (.iload_n 2, 1) := by decide +kernel
theorem dX5_throwsIf_6 : decode cX5_throwsIf 6 = .ok (.putfield 59, 3) := by decide +kernel
theorem dX5_throwsIf_9 : decode cX5_throwsIf 9 = .ok (.iload_n 1, 1) := by decide +kernel
theorem dX5_throwsIf_10 : decode cX5_throwsIf 10 = .ok (.ireturn, 1) := by decide +kernel
theorem dX5_in_0 : decode cX5_in 0 = .ok (.iload_n 0, 1) := by decide +kernel
theorem dX5_in_1 : decode cX5_in 1 = .ok (.iload_n 1, 1) := by decide +kernel
theorem dX5_in_2 : decode cX5_in 2 = .ok (.if_icmp .lt 12, 3) := by decide +kernel
theorem dX5_in_5 : decode cX5_in 5 = .ok (.iload_n 0, 1) := by decide +kernel
theorem dX5_in_6 : decode cX5_in 6 = .ok (.iload_n 2, 1) := by decide +kernel
theorem dX5_in_7 : decode cX5_in 7 = .ok (.if_icmp .gt 7, 3) := by decide +kernel
theorem dX5_in_10 : decode cX5_in 10 = .ok (.iconst 1, 1) := by decide +kernel
theorem dX5_in_11 : decode cX5_in 11 = .ok (.goto 4, 3) := by decide +kernel
theorem dX5_in_14 : decode cX5_in 14 = .ok (.iconst 0, 1) := by decide +kernel
theorem dX5_in_15 : decode cX5_in 15 = .ok (.ireturn, 1) := by decide +kernel
theorem dX5_noPlace_0 : decode cX5_noPlace 0 = .ok (.iload_n 1, 1) := by decide +kernel
theorem dX5_noPlace_1 : decode cX5_noPlace 1 = .ok (.iconst 0, 1) := by decide +kernel
theorem dX5_noPlace_2 : decode cX5_noPlace 2 = .ok (.aload_n 0, 1) := by decide +kernel
theorem dX5_noPlace_3 : decode cX5_noPlace 3 = .ok (.getfield 63, 3) := by decide +kernel
theorem dX5_noPlace_6 : decode cX5_noPlace 6 = .ok (.iconst 1, 1) := by decide +kernel
theorem dX5_noPlace_7 : decode cX5_noPlace 7 = .ok (.isub, 1) := by decide +kernel
theorem dX5_noPlace_8 : decode cX5_noPlace 8 = .ok (.invokestatic 66, 3) := by decide +kernel
theorem dX5_noPlace_11 : decode cX5_noPlace 11 = .ok (.ifCond .ne 7, 3) := by decide +kernel
theorem dX5_noPlace_14 : decode cX5_noPlace 14 = .ok (.iconst 1, 1) := by decide +kernel
theorem dX5_noPlace_15 : decode cX5_noPlace 15 = .ok (.goto 4, 3) := by decide +kernel
theorem dX5_noPlace_18 : decode cX5_noPlace 18 = .ok (.iconst 0, 1) := by decide +kernel
theorem dX5_noPlace_19 : decode cX5_noPlace 19 = .ok (.ireturn, 1) := by decide +kernel
theorem dX5_noAsk_0 : decode cX5_noAsk 0 = .ok (.iload_n 1, 1) := by decide +kernel
theorem dX5_noAsk_1 : decode cX5_noAsk 1 = .ok (.iconst 0, 1) := by decide +kernel
theorem dX5_noAsk_2 : decode cX5_noAsk 2 = .ok (.aload_n 0, 1) := by decide +kernel
theorem dX5_noAsk_3 : decode cX5_noAsk 3 = .ok (.getfield 70, 3) := by decide +kernel
theorem dX5_noAsk_6 : decode cX5_noAsk 6 = .ok (.iconst 1, 1) := by decide +kernel
theorem dX5_noAsk_7 : decode cX5_noAsk 7 = .ok (.isub, 1) := by decide +kernel
theorem dX5_noAsk_8 : decode cX5_noAsk 8 = .ok (.invokestatic 66, 3) := by decide +kernel
theorem dX5_noAsk_11 : decode cX5_noAsk 11 = .ok (.ifCond .ne 7, 3) := by decide +kernel
theorem dX5_noAsk_14 : decode cX5_noAsk 14 = .ok (.iconst 1, 1) := by decide +kernel
theorem dX5_noAsk_15 : decode cX5_noAsk 15 = .ok (.goto 4, 3) := by decide +kernel
theorem dX5_noAsk_18 : decode cX5_noAsk 18 = .ok (.iconst 0, 1) := by decide +kernel
theorem dX5_noAsk_19 : decode cX5_noAsk 19 = .ok (.ireturn, 1) := by decide +kernel
theorem dX5_noStep_0 : decode cX5_noStep 0 = .ok (.aload_n 0, 1) := by decide +kernel
theorem dX5_noStep_1 : decode cX5_noStep 1 = .ok (.iload_n 1, 1) := by decide +kernel
theorem dX5_noStep_2 : decode cX5_noStep 2 = .ok (.invokevirtual 73, 3) := by decide +kernel
theorem dX5_noStep_5 : decode cX5_noStep 5 = .ok (.ifCond .ne 19, 3) := by decide +kernel
theorem dX5_noStep_8 : decode cX5_noStep 8 = .ok (.iload_n 2, 1) := by decide +kernel
theorem dX5_noStep_9 : decode cX5_noStep 9 = .ok (.iconst 0, 1) := by decide +kernel
theorem dX5_noStep_10 : decode cX5_noStep 10 = .ok (.aload_n 0, 1) := by decide +kernel
theorem dX5_noStep_11 : decode cX5_noStep 11 = .ok (.getfield 25, 3) := by decide +kernel
theorem dX5_noStep_14 : decode cX5_noStep 14 = .ok (.iload_n 1, 1) := by decide +kernel
theorem dX5_noStep_15 : decode cX5_noStep 15 = .ok (.iaload, 1) := by decide +kernel
theorem dX5_noStep_16 : decode cX5_noStep 16 = .ok (.iconst 1, 1) := by decide +kernel
theorem dX5_noStep_17 : decode cX5_noStep 17 = .ok (.isub, 1) := by decide +kernel
theorem dX5_noStep_18 : decode cX5_noStep 18 = .ok (.invokestatic 66, 3) := by decide +kernel
theorem dX5_noStep_21 : decode cX5_noStep 21 = .ok (.ifCond .ne 7, 3) := by decide +kernel
theorem dX5_noStep_24 : decode cX5_noStep 24 = .ok (.iconst 1, 1) := by decide +kernel
theorem dX5_noStep_25 : decode cX5_noStep 25 = .ok (.goto 4, 3) := by decide +kernel
theorem dX5_noStep_28 : decode cX5_noStep 28 = .ok (.iconst 0, 1) := by decide +kernel
theorem dX5_noStep_29 : decode cX5_noStep 29 = .ok (.ireturn, 1) := by decide +kernel
theorem dX5_isPlace_0 : decode cX5_isPlace 0 = .ok (.iload_n 0, 1) := by decide +kernel
theorem dX5_isPlace_1 : decode cX5_isPlace 1 = .ok (.iconst 1, 1) := by decide +kernel
theorem dX5_isPlace_2 : decode cX5_isPlace 2 = .ok (.bipush 8, 2) := by decide +kernel
theorem dX5_isPlace_4 : decode cX5_isPlace 4 = .ok (.invokestatic 66, 3) := by decide +kernel
theorem dX5_isPlace_7 : decode cX5_isPlace 7 = .ok (.ifCond .eq 27, 3) := by decide +kernel
theorem dX5_isPlace_10 : decode cX5_isPlace 10 = .ok (.iload_n 1, 1) := by decide +kernel
theorem dX5_isPlace_11 : decode cX5_isPlace 11 = .ok (.iconst 0, 1) := by decide +kernel
theorem dX5_isPlace_12 : decode cX5_isPlace 12 = .ok (.iconst 3, 1) := by decide +kernel
theorem dX5_isPlace_13 : decode cX5_isPlace 13 = .ok (.invokestatic 66, 3) := by decide +kernel
theorem dX5_isPlace_16 : decode cX5_isPlace 16 = .ok (.ifCond .eq 18, 3) := by decide +kernel
theorem dX5_isPlace_19 : decode cX5_isPlace 19 = .ok (.iload_n 2, 1) := by decide +kernel
theorem dX5_isPlace_20 : decode cX5_isPlace 20 = .ok (.iconst 0, 1) := by decide +kernel
theorem dX5_isPlace_21 : decode cX5_isPlace 21 = .ok (.sipush 1000, 3) := by decide +kernel
theorem dX5_isPlace_24 : decode cX5_isPlace 24 = .ok (.invokestatic 66, 3) := by decide +kernel
theorem dX5_isPlace_27 : decode cX5_isPlace 27 = .ok (.ifCond .eq 7, 3) := by decide +kernel
theorem dX5_isPlace_30 : decode cX5_isPlace 30 = .ok (.iconst 1, 1) := by decide +kernel
theorem dX5_isPlace_31 : decode cX5_isPlace 31 = .ok (.goto 4, 3) := by decide +kernel
theorem dX5_isPlace_34 : decode cX5_isPlace 34 = .ok (.iconst 0, 1) := by decide +kernel
theorem dX5_isPlace_35 : decode cX5_isPlace 35 = .ok (.ireturn, 1) := by decide +kernel
theorem dX5_place_0 : decode cX5_place 0 = .ok (.aload_n 0, 1) := by decide +kernel
theorem dX5_place_1 : decode cX5_place 1 = .ok (.iconst 0, 1) := by decide +kernel
theorem dX5_place_2 : decode cX5_place 2 = .ok (.putfield 59, 3) := by decide +kernel
theorem dX5_place_5 : decode cX5_place 5 = .ok (.aload_n 0, 1) := by decide +kernel
theorem dX5_place_6 : decode cX5_place 6 = .ok (.iload_n 1, 1) := by decide +kernel
theorem dX5_place_7 : decode cX5_place 7 = .ok (.iload_n 2, 1) := by decide +kernel
theorem dX5_place_8 : decode cX5_place 8 = .ok (.iload_n 3, 1) := by decide +kernel
theorem dX5_place_9 : decode cX5_place 9 = .ok (.invokestatic 77, 3) := by decide +kernel
theorem dX5_place_12 : decode cX5_place 12 = .ok (.ifCond .ne 7, 3) := by decide +kernel
theorem dX5_place_15 : decode cX5_place 15 = .ok (.iconst 1, 1) := by decide +kernel
theorem dX5_place_16 : decode cX5_place 16 = .ok (.goto 4, 3) := by decide +kernel
theorem dX5_place_19 : decode cX5_place 19 = .ok (.iconst 0, 1) := by decide +kernel
theorem dX5_place_20 : decode cX5_place 20 = .ok (.iconst 1, 1) := by decide +kernel
theorem dX5_place_21 : decode cX5_place 21 = .ok (.invokevirtual 80, 3) := by decide +kernel
theorem dX5_place_24 : decode cX5_place 24 = .ok (.ifCond .ne 24, 3) := by decide +kernel
theorem dX5_place_27 : decode cX5_place 27 = .ok (.aload_n 0, 1) := by decide +kernel
theorem dX5_place_28 : decode cX5_place 28 = .ok (.aload_n 0, 1) := by decide +kernel
theorem dX5_place_29 : decode cX5_place 29 = .ok (.getfield 63, 3) := by decide +kernel
theorem dX5_place_32 : decode cX5_place 32 = .ok (.iconst 5, 1) := by decide +kernel
theorem dX5_place_33 : decode cX5_place 33 = .ok (.if_icmp .ne 7, 3) := by decide +kernel
theorem dX5_place_36 : decode cX5_place 36 = .ok (.iconst 1, 1) := by decide +kernel
theorem dX5_place_37 : decode cX5_place 37 = .ok (.goto 4, 3) := by decide +kernel
theorem dX5_place_40 : decode cX5_place 40 = .ok (.iconst 0, 1) := by decide +kernel
theorem dX5_place_41 : decode cX5_place 41 = .ok (.iconst 2, 1) := by decide +kernel
theorem dX5_place_42 : decode cX5_place 42 = .ok (.invokevirtual 80, 3) := by decide +kernel
theorem dX5_place_45 : decode cX5_place 45 = .ok (.ifCond .eq 5, 3) := by decide +kernel
theorem dX5_place_48 : decode cX5_place 48 = .ok (.iconst 0, 1) := by decide +kernel
theorem dX5_place_49 : decode cX5_place 49 = .ok (.ireturn, 1) := by decide +kernel
theorem dX5_place_50 : decode cX5_place 50 = .ok (.aload_n 0, 1) := by decide +kernel
theorem dX5_place_51 : decode cX5_place 51 = .ok (.getfield 9, 3) := by decide +kernel
theorem dX5_place_54 : decode cX5_place 54 = .ok (.aload_n 0, 1) := by decide +kernel
theorem dX5_place_55 : decode cX5_place 55 = .ok (.getfield 63, 3) := by decide +kernel
theorem dX5_place_58 : decode cX5_place 58 = .ok (.iload_n 1, 1) := by decide +kernel
theorem dX5_place_59 : decode cX5_place 59 = .ok (.iastore, 1) := by decide +kernel
theorem dX5_place_60 : decode cX5_place 60 = .ok (.aload_n 0, 1) := by decide +kernel
theorem dX5_place_61 : decode cX5_place 61 = .ok (.getfield 13, 3) := by decide +kernel
theorem dX5_place_64 : decode cX5_place 64 = .ok (.aload_n 0, 1) := by decide +kernel
theorem dX5_place_65 : decode cX5_place 65 = .ok (.getfield 63, 3) := by decide +kernel
theorem dX5_place_68 : decode cX5_place 68 = .ok (.iload_n 2, 1) := by decide +kernel
theorem dX5_place_69 : decode cX5_place 69 = .ok (.iastore, 1) := by decide +kernel
theorem dX5_place_70 : decode cX5_place 70 = .ok (.aload_n 0, 1) := by decide +kernel
theorem dX5_place_71 : decode cX5_place 71 = .ok (.getfield 16, 3) := by decide +kernel
theorem dX5_place_74 : decode cX5_place 74 = .ok (.aload_n 0, 1) := by decide +kernel
theorem dX5_place_75 : decode cX5_place 75 = .ok (.getfield 63, 3) := by decide +kernel
theorem dX5_place_78 : decode cX5_place 78 = .ok (.iload_n 3, 1) := by decide +kernel
theorem dX5_place_79 : decode cX5_place 79 = .ok (.iastore, 1) := by decide +kernel
theorem dX5_place_80 : decode cX5_place 80 = .ok (.aload_n 0, 1) := by decide +kernel
theorem dX5_place_81 : decode cX5_place 81 = .ok (.dup, 1) := by decide +kernel
theorem dX5_place_82 : decode cX5_place 82 = .ok (.getfield 63, 3) := by decide +kernel
theorem dX5_place_85 : decode cX5_place 85 = .ok (.iconst 1, 1) := by decide +kernel
theorem dX5_place_86 : decode cX5_place 86 = .ok (.iadd, 1) := by decide +kernel
theorem dX5_place_87 : decode cX5_place 87 = .ok (.putfield 63, 3) := by decide +kernel
theorem dX5_place_90 : decode cX5_place 90 = .ok (.aload_n 0, 1) := by decide +kernel
theorem dX5_place_91 : decode cX5_place 91 = .ok (.getfield 63, 3) := by decide +kernel
theorem dX5_place_94 : decode cX5_place 94 = .ok (.iconst 1, 1) := by decide +kernel
theorem dX5_place_95 : decode cX5_place 95 = .ok (.isub, 1) := by decide +kernel
theorem dX5_place_96 : decode cX5_place 96 = .ok (.ireturn, 1) := by decide +kernel
theorem dX5_change_0 : decode cX5_change 0 = .ok (.aload_n 0, 1) := by decide +kernel
theorem dX5_change_1 : decode cX5_change 1 = .ok (.iconst 0, 1) := by decide +kernel
theorem dX5_change_2 : decode cX5_change 2 = .ok (.putfield 59, 3) := by decide +kernel
theorem dX5_change_5 : decode cX5_change 5 = .ok (.aload_n 0, 1) := by decide +kernel
theorem dX5_change_6 : decode cX5_change 6 = .ok (.aload_n 0, 1) := by decide +kernel
theorem dX5_change_7 : decode cX5_change 7 = .ok (.iload_n 1, 1) := by decide +kernel
theorem dX5_change_8 : decode cX5_change 8 = .ok (.invokevirtual 84, 3) := by decide +kernel
theorem dX5_change_11 : decode cX5_change 11 = .ok (.iconst 1, 1) := by decide +kernel
theorem dX5_change_12 : decode cX5_change 12 = .ok (.invokevirtual 80, 3) := by decide +kernel
theorem dX5_change_15 : decode cX5_change 15 = .ok (.ifCond .ne 26, 3) := by decide +kernel
theorem dX5_change_18 : decode cX5_change 18 = .ok (.aload_n 0, 1) := by decide +kernel
theorem dX5_change_19 : decode cX5_change 19 = .ok (.iload_n 2, 1) := by decide +kernel
theorem dX5_change_20 : decode cX5_change 20 = .ok (.iload_n 3, 1) := by decide +kernel
theorem dX5_change_21 : decode cX5_change 21 = .ok (.iload 4, 2) := by decide +kernel
theorem dX5_change_23 : decode cX5_change 23 = .ok (.invokestatic 77, 3) := by decide +kernel
theorem dX5_change_26 : decode cX5_change 26 = .ok (.ifCond .ne 7, 3) := by decide +kernel
theorem dX5_change_29 : decode cX5_change 29 = .ok (.iconst 1, 1) := by decide +kernel
theorem dX5_change_30 : decode cX5_change 30 = .ok (.goto 4, 3) := by decide +kernel
theorem dX5_change_33 : decode cX5_change 33 = .ok (.iconst 0, 1) := by decide +kernel
theorem dX5_change_34 : decode cX5_change 34 = .ok (.iconst 2, 1) := by decide +kernel
theorem dX5_change_35 : decode cX5_change 35 = .ok (.invokevirtual 80, 3) := by decide +kernel
theorem dX5_change_38 : decode cX5_change 38 = .ok (.ifCond .eq 4, 3) := by decide +kernel
theorem dX5_change_41 : decode cX5_change 41 = .ok (.return_, 1) := by decide +kernel
theorem dX5_change_42 : decode cX5_change 42 = .ok (.aload_n 0, 1) := by decide +kernel
theorem dX5_change_43 : decode cX5_change 43 = .ok (.getfield 9, 3) := by decide +kernel
theorem dX5_change_46 : decode cX5_change 46 = .ok (.iload_n 1, 1) := by decide +kernel
theorem dX5_change_47 : decode cX5_change 47 = .ok (.iload_n 2, 1) := by decide +kernel
theorem dX5_change_48 : decode cX5_change 48 = .ok (.iastore, 1) := by decide +kernel
theorem dX5_change_49 : decode cX5_change 49 = .ok (.aload_n 0, 1) := by decide +kernel
theorem dX5_change_50 : decode cX5_change 50 = .ok (.getfield 13, 3) := by decide +kernel
theorem dX5_change_53 : decode cX5_change 53 = .ok (.iload_n 1, 1) := by decide +kernel
theorem dX5_change_54 : decode cX5_change 54 = .ok (.iload_n 3, 1) := by decide +kernel
theorem dX5_change_55 : decode cX5_change 55 = .ok (.iastore, 1) := by decide +kernel
theorem dX5_change_56 : decode cX5_change 56 = .ok (.aload_n 0, 1) := by decide +kernel
theorem dX5_change_57 : decode cX5_change 57 = .ok (.getfield 16, 3) := by decide +kernel
theorem dX5_change_60 : decode cX5_change 60 = .ok (.iload_n 1, 1) := by decide +kernel
theorem dX5_change_61 : decode cX5_change 61 = .ok (.iload 4, 2) := by decide +kernel
theorem dX5_change_63 : decode cX5_change 63 = .ok (.iastore, 1) := by decide +kernel
theorem dX5_change_64 : decode cX5_change 64 = .ok (.return_, 1) := by decide +kernel
theorem dX5_ask_0 : decode cX5_ask 0 = .ok (.aload_n 0, 1) := by decide +kernel
theorem dX5_ask_1 : decode cX5_ask 1 = .ok (.iconst 0, 1) := by decide +kernel
theorem dX5_ask_2 : decode cX5_ask 2 = .ok (.putfield 59, 3) := by decide +kernel
theorem dX5_ask_5 : decode cX5_ask 5 = .ok (.aload_n 0, 1) := by decide +kernel
theorem dX5_ask_6 : decode cX5_ask 6 = .ok (.aload_n 0, 1) := by decide +kernel
theorem dX5_ask_7 : decode cX5_ask 7 = .ok (.iload_n 3, 1) := by decide +kernel
theorem dX5_ask_8 : decode cX5_ask 8 = .ok (.invokevirtual 84, 3) := by decide +kernel
theorem dX5_ask_11 : decode cX5_ask 11 = .ok (.iconst 1, 1) := by decide +kernel
theorem dX5_ask_12 : decode cX5_ask 12 = .ok (.invokevirtual 80, 3) := by decide +kernel
theorem dX5_ask_15 : decode cX5_ask 15 = .ok (.ifCond .ne 69, 3) := by decide +kernel
theorem dX5_ask_18 : decode cX5_ask 18 = .ok (.aload_n 0, 1) := by decide +kernel
theorem dX5_ask_19 : decode cX5_ask 19 = .ok (.iload_n 1, 1) := by decide +kernel
theorem dX5_ask_20 : decode cX5_ask 20 = .ok (.iconst 0, 1) := by decide +kernel
theorem dX5_ask_21 : decode cX5_ask 21 = .ok (.iconst 3, 1) := by decide +kernel
theorem dX5_ask_22 : decode cX5_ask 22 = .ok (.invokestatic 66, 3) := by decide +kernel
theorem dX5_ask_25 : decode cX5_ask 25 = .ok (.ifCond .eq 25, 3) := by decide +kernel
theorem dX5_ask_28 : decode cX5_ask 28 = .ok (.iload_n 2, 1) := by decide +kernel
theorem dX5_ask_29 : decode cX5_ask 29 = .ok (.iconst 0, 1) := by decide +kernel
theorem dX5_ask_30 : decode cX5_ask 30 = .ok (.ldc 87, 2) := by decide +kernel
theorem dX5_ask_32 : decode cX5_ask 32 = .ok (.invokestatic 66, 3) := by decide +kernel
theorem dX5_ask_35 : decode cX5_ask 35 = .ok (.ifCond .eq 15, 3) := by decide +kernel
theorem dX5_ask_38 : decode cX5_ask 38 = .ok (.iload 4, 2) := by decide +kernel
theorem dX5_ask_40 : decode cX5_ask 40 = .ok (.iconst 1, 1) := by decide +kernel
theorem dX5_ask_41 : decode cX5_ask 41 = .ok (.sipush 1000, 3) := by decide +kernel
theorem dX5_ask_44 : decode cX5_ask 44 = .ok (.invokestatic 66, 3) := by decide +kernel
theorem dX5_ask_47 : decode cX5_ask 47 = .ok (.ifCond .ne 7, 3) := by decide +kernel
theorem dX5_ask_50 : decode cX5_ask 50 = .ok (.iconst 1, 1) := by decide +kernel
theorem dX5_ask_51 : decode cX5_ask 51 = .ok (.goto 4, 3) := by decide +kernel
theorem dX5_ask_54 : decode cX5_ask 54 = .ok (.iconst 0, 1) := by decide +kernel
theorem dX5_ask_55 : decode cX5_ask 55 = .ok (.iconst 2, 1) := by decide +kernel
theorem dX5_ask_56 : decode cX5_ask 56 = .ok (.invokevirtual 80, 3) := by decide +kernel
theorem dX5_ask_59 : decode cX5_ask 59 = .ok (.ifCond .ne 25, 3) := by decide +kernel
theorem dX5_ask_62 : decode cX5_ask 62 = .ok (.aload_n 0, 1) := by decide +kernel
theorem dX5_ask_63 : decode cX5_ask 63 = .ok (.aload_n 0, 1) := by decide +kernel
theorem dX5_ask_64 : decode cX5_ask 64 = .ok (.getfield 70, 3) := by decide +kernel
theorem dX5_ask_67 : decode cX5_ask 67 = .ok (.bipush 60, 2) := by decide +kernel
theorem dX5_ask_69 : decode cX5_ask 69 = .ok (.if_icmp .ne 7, 3) := by decide +kernel
theorem dX5_ask_72 : decode cX5_ask 72 = .ok (.iconst 1, 1) := by decide +kernel
theorem dX5_ask_73 : decode cX5_ask 73 = .ok (.goto 4, 3) := by decide +kernel
theorem dX5_ask_76 : decode cX5_ask 76 = .ok (.iconst 0, 1) := by decide +kernel
theorem dX5_ask_77 : decode cX5_ask 77 = .ok (.iconst 3, 1) := by decide +kernel
theorem dX5_ask_78 : decode cX5_ask 78 = .ok (.invokevirtual 80, 3) := by decide +kernel
theorem dX5_ask_81 : decode cX5_ask 81 = .ok (.ifCond .eq 5, 3) := by decide +kernel
theorem dX5_ask_84 : decode cX5_ask 84 = .ok (.iconst 0, 1) := by decide +kernel
theorem dX5_ask_85 : decode cX5_ask 85 = .ok (.ireturn, 1) := by decide +kernel
theorem dX5_ask_86 : decode cX5_ask 86 = .ok (.aload_n 0, 1) := by decide +kernel
theorem dX5_ask_87 : decode cX5_ask 87 = .ok (.getfield 19, 3) := by decide +kernel
theorem dX5_ask_90 : decode cX5_ask 90 = .ok (.aload_n 0, 1) := by decide +kernel
theorem dX5_ask_91 : decode cX5_ask 91 = .ok (.getfield 70, 3) := by decide +kernel
theorem dX5_ask_94 : decode cX5_ask 94 = .ok (.iload_n 1, 1) := by decide +kernel
theorem dX5_ask_95 : decode cX5_ask 95 = .ok (.iastore, 1) := by decide +kernel
theorem dX5_ask_96 : decode cX5_ask 96 = .ok (.aload_n 0, 1) := by decide +kernel
theorem dX5_ask_97 : decode cX5_ask 97 = .ok (.getfield 22, 3) := by decide +kernel
theorem dX5_ask_100 : decode cX5_ask 100 = .ok (.aload_n 0, 1) := by decide +kernel
theorem dX5_ask_101 : decode cX5_ask 101 = .ok (.getfield 70, 3) := by decide +kernel
theorem dX5_ask_104 : decode cX5_ask 104 = .ok (.iload_n 2, 1) := by decide +kernel
theorem dX5_ask_105 : decode cX5_ask 105 = .ok (.iastore, 1) := by decide +kernel
theorem dX5_ask_106 : decode cX5_ask 106 = .ok (.aload_n 0, 1) := by decide +kernel
theorem dX5_ask_107 : decode cX5_ask 107 = .ok (.getfield 28, 3) := by decide +kernel
theorem dX5_ask_110 : decode cX5_ask 110 = .ok (.iconst 5, 1) := by decide +kernel
theorem dX5_ask_111 : decode cX5_ask 111 = .ok (.aload_n 0, 1) := by decide +kernel
theorem dX5_ask_112 : decode cX5_ask 112 = .ok (.getfield 70, 3) := by decide +kernel
theorem dX5_ask_115 : decode cX5_ask 115 = .ok (.imul, 1) := by decide +kernel
theorem dX5_ask_116 : decode cX5_ask 116 = .ok (.iload_n 3, 1) := by decide +kernel
theorem dX5_ask_117 : decode cX5_ask 117 = .ok (.iastore, 1) := by decide +kernel
theorem dX5_ask_118 : decode cX5_ask 118 = .ok (.aload_n 0, 1) := by decide +kernel
theorem dX5_ask_119 : decode cX5_ask 119 = .ok (.getfield 31, 3) := by decide +kernel
theorem dX5_ask_122 : decode cX5_ask 122 = .ok (.iconst 5, 1) := by decide +kernel
theorem dX5_ask_123 : decode cX5_ask 123 = .ok (.aload_n 0, 1) := by decide +kernel
theorem dX5_ask_124 : decode cX5_ask 124 = .ok (.getfield 70, 3) := by decide +kernel
theorem dX5_ask_127 : decode cX5_ask 127 = .ok (.imul, 1) := by decide +kernel
theorem dX5_ask_128 : decode cX5_ask 128 = .ok (.iload 4, 2) := by decide +kernel
theorem dX5_ask_130 : decode cX5_ask 130 = .ok (.iastore, 1) := by decide +kernel
theorem dX5_ask_131 : decode cX5_ask 131 = .ok (.aload_n 0, 1) := by decide +kernel
theorem dX5_ask_132 : decode cX5_ask 132 = .ok (.getfield 25, 3) := by decide +kernel
theorem dX5_ask_135 : decode cX5_ask 135 = .ok (.aload_n 0, 1) := by decide +kernel
theorem dX5_ask_136 : decode cX5_ask 136 = .ok (.getfield 70, 3) := by decide +kernel
theorem dX5_ask_139 : decode cX5_ask 139 = .ok (.iconst 1, 1) := by decide +kernel
theorem dX5_ask_140 : decode cX5_ask 140 = .ok (.iastore, 1) := by decide +kernel
theorem dX5_ask_141 : decode cX5_ask 141 = .ok (.aload_n 0, 1) := by decide +kernel
theorem dX5_ask_142 : decode cX5_ask 142 = .ok (.dup, 1) := by decide +kernel
theorem dX5_ask_143 : decode cX5_ask 143 = .ok (.getfield 70, 3) := by decide +kernel
theorem dX5_ask_146 : decode cX5_ask 146 = .ok (.iconst 1, 1) := by decide +kernel
theorem dX5_ask_147 : decode cX5_ask 147 = .ok (.iadd, 1) := by decide +kernel
theorem dX5_ask_148 : decode cX5_ask 148 = .ok (.putfield 70, 3) := by decide +kernel
theorem dX5_ask_151 : decode cX5_ask 151 = .ok (.aload_n 0, 1) := by decide +kernel
theorem dX5_ask_152 : decode cX5_ask 152 = .ok (.getfield 70, 3) := by decide +kernel
theorem dX5_ask_155 : decode cX5_ask 155 = .ok (.iconst 1, 1) := by decide +kernel
theorem dX5_ask_156 : decode cX5_ask 156 = .ok (.isub, 1) := by decide +kernel
theorem dX5_ask_157 : decode cX5_ask 157 = .ok (.ireturn, 1) := by decide +kernel
theorem dX5_step_0 : decode cX5_step 0 = .ok (.aload_n 0, 1) := by decide +kernel
theorem dX5_step_1 : decode cX5_step 1 = .ok (.iconst 0, 1) := by decide +kernel
theorem dX5_step_2 : decode cX5_step 2 = .ok (.putfield 59, 3) := by decide +kernel
theorem dX5_step_5 : decode cX5_step 5 = .ok (.aload_n 0, 1) := by decide +kernel
theorem dX5_step_6 : decode cX5_step 6 = .ok (.aload_n 0, 1) := by decide +kernel
theorem dX5_step_7 : decode cX5_step 7 = .ok (.iload_n 1, 1) := by decide +kernel
theorem dX5_step_8 : decode cX5_step 8 = .ok (.invokevirtual 73, 3) := by decide +kernel
theorem dX5_step_11 : decode cX5_step 11 = .ok (.ifCond .ne 11, 3) := by decide +kernel
theorem dX5_step_14 : decode cX5_step 14 = .ok (.aload_n 0, 1) := by decide +kernel
theorem dX5_step_15 : decode cX5_step 15 = .ok (.iload_n 2, 1) := by decide +kernel
theorem dX5_step_16 : decode cX5_step 16 = .ok (.invokevirtual 84, 3) := by decide +kernel
theorem dX5_step_19 : decode cX5_step 19 = .ok (.ifCond .eq 7, 3) := by decide +kernel
theorem dX5_step_22 : decode cX5_step 22 = .ok (.iconst 1, 1) := by decide +kernel
theorem dX5_step_23 : decode cX5_step 23 = .ok (.goto 4, 3) := by decide +kernel
theorem dX5_step_26 : decode cX5_step 26 = .ok (.iconst 0, 1) := by decide +kernel
theorem dX5_step_27 : decode cX5_step 27 = .ok (.iconst 1, 1) := by decide +kernel
theorem dX5_step_28 : decode cX5_step 28 = .ok (.invokevirtual 80, 3) := by decide +kernel
theorem dX5_step_31 : decode cX5_step 31 = .ok (.ifCond .ne 27, 3) := by decide +kernel
theorem dX5_step_34 : decode cX5_step 34 = .ok (.aload_n 0, 1) := by decide +kernel
theorem dX5_step_35 : decode cX5_step 35 = .ok (.iload_n 3, 1) := by decide +kernel
theorem dX5_step_36 : decode cX5_step 36 = .ok (.iconst 1, 1) := by decide +kernel
theorem dX5_step_37 : decode cX5_step 37 = .ok (.sipush 1000, 3) := by decide +kernel
theorem dX5_step_40 : decode cX5_step 40 = .ok (.invokestatic 66, 3) := by decide +kernel
theorem dX5_step_43 : decode cX5_step 43 = .ok (.ifCond .ne 7, 3) := by decide +kernel
theorem dX5_step_46 : decode cX5_step 46 = .ok (.iconst 1, 1) := by decide +kernel
theorem dX5_step_47 : decode cX5_step 47 = .ok (.goto 4, 3) := by decide +kernel
theorem dX5_step_50 : decode cX5_step 50 = .ok (.iconst 0, 1) := by decide +kernel
theorem dX5_step_51 : decode cX5_step 51 = .ok (.iconst 2, 1) := by decide +kernel
theorem dX5_step_52 : decode cX5_step 52 = .ok (.invokevirtual 80, 3) := by decide +kernel
theorem dX5_step_55 : decode cX5_step 55 = .ok (.ifCond .eq 5, 3) := by decide +kernel
theorem dX5_step_58 : decode cX5_step 58 = .ok (.iconst 0, 1) := by decide +kernel
theorem dX5_step_59 : decode cX5_step 59 = .ok (.ireturn, 1) := by decide +kernel
theorem dX5_step_60 : decode cX5_step 60 = .ok (.aload_n 0, 1) := by decide +kernel
theorem dX5_step_61 : decode cX5_step 61 = .ok (.getfield 25, 3) := by decide +kernel
theorem dX5_step_64 : decode cX5_step 64 = .ok (.iload_n 1, 1) := by decide +kernel
theorem dX5_step_65 : decode cX5_step 65 = .ok (.iaload, 1) := by decide +kernel
theorem dX5_step_66 : decode cX5_step 66 = .ok (.iconst 5, 1) := by decide +kernel
theorem dX5_step_67 : decode cX5_step 67 = .ok (.if_icmp .ne 5, 3) := by decide +kernel
theorem dX5_step_70 : decode cX5_step 70 = .ok (.iconst (-1), 1) := by decide +kernel
theorem dX5_step_71 : decode cX5_step 71 = .ok (.ireturn, 1) := by decide +kernel
theorem dX5_step_72 : decode cX5_step 72 = .ok (.aload_n 0, 1) := by decide +kernel
theorem dX5_step_73 : decode cX5_step 73 = .ok (.getfield 28, 3) := by decide +kernel
theorem dX5_step_76 : decode cX5_step 76 = .ok (.iconst 5, 1) := by decide +kernel
theorem dX5_step_77 : decode cX5_step 77 = .ok (.iload_n 1, 1) := by decide +kernel
theorem dX5_step_78 : decode cX5_step 78 = .ok (.imul, 1) := by decide +kernel
theorem dX5_step_79 : decode cX5_step 79 = .ok (.aload_n 0, 1) := by decide +kernel
theorem dX5_step_80 : decode cX5_step 80 = .ok (.getfield 25, 3) := by decide +kernel
theorem dX5_step_83 : decode cX5_step 83 = .ok (.iload_n 1, 1) := by decide +kernel
theorem dX5_step_84 : decode cX5_step 84 = .ok (.iaload, 1) := by decide +kernel
theorem dX5_step_85 : decode cX5_step 85 = .ok (.iadd, 1) := by decide +kernel
theorem dX5_step_86 : decode cX5_step 86 = .ok (.iload_n 2, 1) := by decide +kernel
theorem dX5_step_87 : decode cX5_step 87 = .ok (.iastore, 1) := by decide +kernel
theorem dX5_step_88 : decode cX5_step 88 = .ok (.aload_n 0, 1) := by decide +kernel
theorem dX5_step_89 : decode cX5_step 89 = .ok (.getfield 31, 3) := by decide +kernel
theorem dX5_step_92 : decode cX5_step 92 = .ok (.iconst 5, 1) := by decide +kernel
theorem dX5_step_93 : decode cX5_step 93 = .ok (.iload_n 1, 1) := by decide +kernel
theorem dX5_step_94 : decode cX5_step 94 = .ok (.imul, 1) := by decide +kernel
theorem dX5_step_95 : decode cX5_step 95 = .ok (.aload_n 0, 1) := by decide +kernel
theorem dX5_step_96 : decode cX5_step 96 = .ok (.getfield 25, 3) := by decide +kernel
theorem dX5_step_99 : decode cX5_step 99 = .ok (.iload_n 1, 1) := by decide +kernel
theorem dX5_step_100 : decode cX5_step 100 = .ok (.iaload, 1) := by decide +kernel
theorem dX5_step_101 : decode cX5_step 101 = .ok (.iadd, 1) := by decide +kernel
theorem dX5_step_102 : decode cX5_step 102 = .ok (.iload_n 3, 1) := by decide +kernel
theorem dX5_step_103 : decode cX5_step 103 = .ok (.iastore, 1) := by decide +kernel
theorem dX5_step_104 : decode cX5_step 104 = .ok (.aload_n 0, 1) := by decide +kernel
theorem dX5_step_105 : decode cX5_step 105 = .ok (.getfield 25, 3) := by decide +kernel
theorem dX5_step_108 : decode cX5_step 108 = .ok (.iload_n 1, 1) := by decide +kernel
theorem dX5_step_109 : decode cX5_step 109 = .ok (.dup2, 1) := by decide +kernel
theorem dX5_step_110 : decode cX5_step 110 = .ok (.iaload, 1) := by decide +kernel
theorem dX5_step_111 : decode cX5_step 111 = .ok (.iconst 1, 1) := by decide +kernel
theorem dX5_step_112 : decode cX5_step 112 = .ok (.iadd, 1) := by decide +kernel
theorem dX5_step_113 : decode cX5_step 113 = .ok (.iastore, 1) := by decide +kernel
theorem dX5_step_114 : decode cX5_step 114 = .ok (.aload_n 0, 1) := by decide +kernel
theorem dX5_step_115 : decode cX5_step 115 = .ok (.getfield 25, 3) := by decide +kernel
theorem dX5_step_118 : decode cX5_step 118 = .ok (.iload_n 1, 1) := by decide +kernel
theorem dX5_step_119 : decode cX5_step 119 = .ok (.iaload, 1) := by decide +kernel
theorem dX5_step_120 : decode cX5_step 120 = .ok (.iconst 1, 1) := by decide +kernel
theorem dX5_step_121 : decode cX5_step 121 = .ok (.isub, 1) := by decide +kernel
theorem dX5_step_122 : decode cX5_step 122 = .ok (.ireturn, 1) := by decide +kernel
theorem dX5_seen_0 : decode cX5_seen 0 = .ok (.aload_n 0, 1) := by decide +kernel
theorem dX5_seen_1 : decode cX5_seen 1 = .ok (.iconst 0, 1) := by decide +kernel
theorem dX5_seen_2 : decode cX5_seen 2 = .ok (.putfield 59, 3) := by decide +kernel
theorem dX5_seen_5 : decode cX5_seen 5 = .ok (.aload_n 0, 1) := by decide +kernel
theorem dX5_seen_6 : decode cX5_seen 6 = .ok (.aload_n 0, 1) := by decide +kernel
theorem dX5_seen_7 : decode cX5_seen 7 = .ok (.iload_n 1, 1) := by decide +kernel
theorem dX5_seen_8 : decode cX5_seen 8 = .ok (.iload_n 2, 1) := by decide +kernel
theorem dX5_seen_9 : decode cX5_seen 9 = .ok (.invokevirtual 88, 3) := by decide +kernel
theorem dX5_seen_12 : decode cX5_seen 12 = .ok (.iconst 1, 1) := by decide +kernel
theorem dX5_seen_13 : decode cX5_seen 13 = .ok (.invokevirtual 80, 3) := by decide +kernel
theorem dX5_seen_16 : decode cX5_seen 16 = .ok (.ifCond .ne 43, 3) := by decide +kernel
theorem dX5_seen_19 : decode cX5_seen 19 = .ok (.aload_n 0, 1) := by decide +kernel
theorem dX5_seen_20 : decode cX5_seen 20 = .ok (.iload_n 3, 1) := by decide +kernel
theorem dX5_seen_21 : decode cX5_seen 21 = .ok (.iconst 0, 1) := by decide +kernel
theorem dX5_seen_22 : decode cX5_seen 22 = .ok (.ldc 92, 2) := by decide +kernel
theorem dX5_seen_24 : decode cX5_seen 24 = .ok (.invokestatic 66, 3) := by decide +kernel
theorem dX5_seen_27 : decode cX5_seen 27 = .ok (.ifCond .eq 20, 3) := by decide +kernel
theorem dX5_seen_30 : decode cX5_seen 30 = .ok (.iload 4, 2) := by decide +kernel
theorem dX5_seen_32 : decode cX5_seen 32 = .ok (.iconst 0, 1) := by decide +kernel
theorem dX5_seen_33 : decode cX5_seen 33 = .ok (.ldc 92, 2) := by decide +kernel
theorem dX5_seen_35 : decode cX5_seen 35 = .ok (.invokestatic 66, 3) := by decide +kernel
theorem dX5_seen_38 : decode cX5_seen 38 = .ok (.ifCond .eq 9, 3) := by decide +kernel
theorem dX5_seen_41 : decode cX5_seen 41 = .ok (.iload 4, 2) := by decide +kernel
theorem dX5_seen_43 : decode cX5_seen 43 = .ok (.iload_n 3, 1) := by decide +kernel
theorem dX5_seen_44 : decode cX5_seen 44 = .ok (.if_icmp .gt 7, 3) := by decide +kernel
theorem dX5_seen_47 : decode cX5_seen 47 = .ok (.iconst 1, 1) := by decide +kernel
theorem dX5_seen_48 : decode cX5_seen 48 = .ok (.goto 4, 3) := by decide +kernel
theorem dX5_seen_51 : decode cX5_seen 51 = .ok (.iconst 0, 1) := by decide +kernel
theorem dX5_seen_52 : decode cX5_seen 52 = .ok (.iconst 2, 1) := by decide +kernel
theorem dX5_seen_53 : decode cX5_seen 53 = .ok (.invokevirtual 80, 3) := by decide +kernel
theorem dX5_seen_56 : decode cX5_seen 56 = .ok (.ifCond .eq 4, 3) := by decide +kernel
theorem dX5_seen_59 : decode cX5_seen 59 = .ok (.return_, 1) := by decide +kernel
theorem dX5_seen_60 : decode cX5_seen 60 = .ok (.aload_n 0, 1) := by decide +kernel
theorem dX5_seen_61 : decode cX5_seen 61 = .ok (.getfield 34, 3) := by decide +kernel
theorem dX5_seen_64 : decode cX5_seen 64 = .ok (.iconst 5, 1) := by decide +kernel
theorem dX5_seen_65 : decode cX5_seen 65 = .ok (.iload_n 1, 1) := by decide +kernel
theorem dX5_seen_66 : decode cX5_seen 66 = .ok (.imul, 1) := by decide +kernel
theorem dX5_seen_67 : decode cX5_seen 67 = .ok (.iload_n 2, 1) := by decide +kernel
theorem dX5_seen_68 : decode cX5_seen 68 = .ok (.iadd, 1) := by decide +kernel
theorem dX5_seen_69 : decode cX5_seen 69 = .ok (.iconst 1, 1) := by decide +kernel
theorem dX5_seen_70 : decode cX5_seen 70 = .ok (.bastore, 1) := by decide +kernel
theorem dX5_seen_71 : decode cX5_seen 71 = .ok (.aload_n 0, 1) := by decide +kernel
theorem dX5_seen_72 : decode cX5_seen 72 = .ok (.getfield 38, 3) := by decide +kernel
theorem dX5_seen_75 : decode cX5_seen 75 = .ok (.iconst 5, 1) := by decide +kernel
theorem dX5_seen_76 : decode cX5_seen 76 = .ok (.iload_n 1, 1) := by decide +kernel
theorem dX5_seen_77 : decode cX5_seen 77 = .ok (.imul, 1) := by decide +kernel
theorem dX5_seen_78 : decode cX5_seen 78 = .ok (.iload_n 2, 1) := by decide +kernel
theorem dX5_seen_79 : decode cX5_seen 79 = .ok (.iadd, 1) := by decide +kernel
theorem dX5_seen_80 : decode cX5_seen 80 = .ok (.iload_n 3, 1) := by decide +kernel
theorem dX5_seen_81 : decode cX5_seen 81 = .ok (.iastore, 1) := by decide +kernel
theorem dX5_seen_82 : decode cX5_seen 82 = .ok (.aload_n 0, 1) := by decide +kernel
theorem dX5_seen_83 : decode cX5_seen 83 = .ok (.getfield 41, 3) := by decide +kernel
theorem dX5_seen_86 : decode cX5_seen 86 = .ok (.iconst 5, 1) := by decide +kernel
theorem dX5_seen_87 : decode cX5_seen 87 = .ok (.iload_n 1, 1) := by decide +kernel
theorem dX5_seen_88 : decode cX5_seen 88 = .ok (.imul, 1) := by decide +kernel
theorem dX5_seen_89 : decode cX5_seen 89 = .ok (.iload_n 2, 1) := by decide +kernel
theorem dX5_seen_90 : decode cX5_seen 90 = .ok (.iadd, 1) := by decide +kernel
theorem dX5_seen_91 : decode cX5_seen 91 = .ok (.iload 4, 2) := by decide +kernel
theorem dX5_seen_93 : decode cX5_seen 93 = .ok (.iastore, 1) := by decide +kernel
theorem dX5_seen_94 : decode cX5_seen 94 = .ok (.return_, 1) := by decide +kernel
theorem dX5_unsee_0 : decode cX5_unsee 0 = .ok (.aload_n 0, 1) := by decide +kernel
theorem dX5_unsee_1 : decode cX5_unsee 1 = .ok (.iconst 0, 1) := by decide +kernel
theorem dX5_unsee_2 : decode cX5_unsee 2 = .ok (.putfield 59, 3) := by decide +kernel
theorem dX5_unsee_5 : decode cX5_unsee 5 = .ok (.aload_n 0, 1) := by decide +kernel
theorem dX5_unsee_6 : decode cX5_unsee 6 = .ok (.aload_n 0, 1) := by decide +kernel
theorem dX5_unsee_7 : decode cX5_unsee 7 = .ok (.iload_n 1, 1) := by decide +kernel
theorem dX5_unsee_8 : decode cX5_unsee 8 = .ok (.iload_n 2, 1) := by decide +kernel
theorem dX5_unsee_9 : decode cX5_unsee 9 = .ok (.invokevirtual 88, 3) := by decide +kernel
theorem dX5_unsee_12 : decode cX5_unsee 12 = .ok (.iconst 1, 1) := by decide +kernel
theorem dX5_unsee_13 : decode cX5_unsee 13 = .ok (.invokevirtual 80, 3) := by decide +kernel
theorem dX5_unsee_16 : decode cX5_unsee 16 = .ok (.ifCond .eq 5, 3) := by decide +kernel
theorem dX5_unsee_19 : decode cX5_unsee 19 = .ok (.iconst 0, 1) := by decide +kernel
theorem dX5_unsee_20 : decode cX5_unsee 20 = .ok (.ireturn, 1) := by decide +kernel
theorem dX5_unsee_21 : decode cX5_unsee 21 = .ok (.aload_n 0, 1) := by decide +kernel
theorem dX5_unsee_22 : decode cX5_unsee 22 = .ok (.getfield 34, 3) := by decide +kernel
theorem dX5_unsee_25 : decode cX5_unsee 25 = .ok (.iconst 5, 1) := by decide +kernel
theorem dX5_unsee_26 : decode cX5_unsee 26 = .ok (.iload_n 1, 1) := by decide +kernel
theorem dX5_unsee_27 : decode cX5_unsee 27 = .ok (.imul, 1) := by decide +kernel
theorem dX5_unsee_28 : decode cX5_unsee 28 = .ok (.iload_n 2, 1) := by decide +kernel
theorem dX5_unsee_29 : decode cX5_unsee 29 = .ok (.iadd, 1) := by decide +kernel
theorem dX5_unsee_30 : decode cX5_unsee 30 = .ok (.baload, 1) := by decide +kernel
theorem dX5_unsee_31 : decode cX5_unsee 31 = .ok (.istore_n 3, 1) := by decide +kernel
theorem dX5_unsee_32 : decode cX5_unsee 32 = .ok (.aload_n 0, 1) := by decide +kernel
theorem dX5_unsee_33 : decode cX5_unsee 33 = .ok (.getfield 34, 3) := by decide +kernel
theorem dX5_unsee_36 : decode cX5_unsee 36 = .ok (.iconst 5, 1) := by decide +kernel
theorem dX5_unsee_37 : decode cX5_unsee 37 = .ok (.iload_n 1, 1) := by decide +kernel
theorem dX5_unsee_38 : decode cX5_unsee 38 = .ok (.imul, 1) := by decide +kernel
theorem dX5_unsee_39 : decode cX5_unsee 39 = .ok (.iload_n 2, 1) := by decide +kernel
theorem dX5_unsee_40 : decode cX5_unsee 40 = .ok (.iadd, 1) := by decide +kernel
theorem dX5_unsee_41 : decode cX5_unsee 41 = .ok (.iconst 0, 1) := by decide +kernel
theorem dX5_unsee_42 : decode cX5_unsee 42 = .ok (.bastore, 1) := by decide +kernel
theorem dX5_unsee_43 : decode cX5_unsee 43 = .ok (.iload_n 3, 1) := by decide +kernel
theorem dX5_unsee_44 : decode cX5_unsee 44 = .ok (.ireturn, 1) := by decide +kernel
theorem dX5_isAhead_0 : decode cX5_isAhead 0 = .ok (.iload_n 3, 1) := by decide +kernel
theorem dX5_isAhead_1 : decode cX5_isAhead 1 = .ok (.iconst 1, 1) := by decide +kernel
theorem dX5_isAhead_2 : decode cX5_isAhead 2 = .ok (.if_icmp .ne 39, 3) := by decide +kernel
theorem dX5_isAhead_5 : decode cX5_isAhead 5 = .ok (.aload_n 0, 1) := by decide +kernel
theorem dX5_isAhead_6 : decode cX5_isAhead 6 = .ok (.getfield 44, 3) := by decide +kernel
theorem dX5_isAhead_9 : decode cX5_isAhead 9 = .ok (.iload_n 1, 1) := by decide +kernel
theorem dX5_isAhead_10 : decode cX5_isAhead 10 = .ok (.iaload, 1) := by decide +kernel
theorem dX5_isAhead_11 : decode cX5_isAhead 11 = .ok (.aload_n 0, 1) := by decide +kernel
theorem dX5_isAhead_12 : decode cX5_isAhead 12 = .ok (.getfield 44, 3) := by decide +kernel
theorem dX5_isAhead_15 : decode cX5_isAhead 15 = .ok (.iload_n 2, 1) := by decide +kernel
theorem dX5_isAhead_16 : decode cX5_isAhead 16 = .ok (.iaload, 1) := by decide +kernel
theorem dX5_isAhead_17 : decode cX5_isAhead 17 = .ok (.if_icmp .eq 24, 3) := by decide +kernel
theorem dX5_isAhead_20 : decode cX5_isAhead 20 = .ok (.aload_n 0, 1) := by decide +kernel
theorem dX5_isAhead_21 : decode cX5_isAhead 21 = .ok (.getfield 44, 3) := by decide +kernel
theorem dX5_isAhead_24 : decode cX5_isAhead 24 = .ok (.iload_n 1, 1) := by decide +kernel
theorem dX5_isAhead_25 : decode cX5_isAhead 25 = .ok (.iaload, 1) := by decide +kernel
theorem dX5_isAhead_26 : decode cX5_isAhead 26 = .ok (.aload_n 0, 1) := by decide +kernel
theorem dX5_isAhead_27 : decode cX5_isAhead 27 = .ok (.getfield 44, 3) := by decide +kernel
theorem dX5_isAhead_30 : decode cX5_isAhead 30 = .ok (.iload_n 2, 1) := by decide +kernel
theorem dX5_isAhead_31 : decode cX5_isAhead 31 = .ok (.iaload, 1) := by decide +kernel
theorem dX5_isAhead_32 : decode cX5_isAhead 32 = .ok (.if_icmp .le 7, 3) := by decide +kernel
theorem dX5_isAhead_35 : decode cX5_isAhead 35 = .ok (.iconst 1, 1) := by decide +kernel
theorem dX5_isAhead_36 : decode cX5_isAhead 36 = .ok (.goto 4, 3) := by decide +kernel
theorem dX5_isAhead_39 : decode cX5_isAhead 39 = .ok (.iconst 0, 1) := by decide +kernel
theorem dX5_isAhead_40 : decode cX5_isAhead 40 = .ok (.ireturn, 1) := by decide +kernel
theorem dX5_isAhead_41 : decode cX5_isAhead 41 = .ok (.iload_n 3, 1) := by decide +kernel
theorem dX5_isAhead_42 : decode cX5_isAhead 42 = .ok (.iconst 2, 1) := by decide +kernel
theorem dX5_isAhead_43 : decode cX5_isAhead 43 = .ok (.if_icmp .ne 39, 3) := by decide +kernel
theorem dX5_isAhead_46 : decode cX5_isAhead 46 = .ok (.aload_n 0, 1) := by decide +kernel
theorem dX5_isAhead_47 : decode cX5_isAhead 47 = .ok (.getfield 56, 3) := by decide +kernel
theorem dX5_isAhead_50 : decode cX5_isAhead 50 = .ok (.iload_n 1, 1) := by decide +kernel
theorem dX5_isAhead_51 : decode cX5_isAhead 51 = .ok (.iaload, 1) := by decide +kernel
theorem dX5_isAhead_52 : decode cX5_isAhead 52 = .ok (.aload_n 0, 1) := by decide +kernel
theorem dX5_isAhead_53 : decode cX5_isAhead 53 = .ok (.getfield 56, 3) := by decide +kernel
theorem dX5_isAhead_56 : decode cX5_isAhead 56 = .ok (.iload_n 2, 1) := by decide +kernel
theorem dX5_isAhead_57 : decode cX5_isAhead 57 = .ok (.iaload, 1) := by decide +kernel
theorem dX5_isAhead_58 : decode cX5_isAhead 58 = .ok (.if_icmp .eq 24, 3) := by decide +kernel
theorem dX5_isAhead_61 : decode cX5_isAhead 61 = .ok (.aload_n 0, 1) := by decide +kernel
theorem dX5_isAhead_62 : decode cX5_isAhead 62 = .ok (.getfield 56, 3) := by decide +kernel
theorem dX5_isAhead_65 : decode cX5_isAhead 65 = .ok (.iload_n 1, 1) := by decide +kernel
theorem dX5_isAhead_66 : decode cX5_isAhead 66 = .ok (.iaload, 1) := by decide +kernel
theorem dX5_isAhead_67 : decode cX5_isAhead 67 = .ok (.aload_n 0, 1) := by decide +kernel
theorem dX5_isAhead_68 : decode cX5_isAhead 68 = .ok (.getfield 56, 3) := by decide +kernel
theorem dX5_isAhead_71 : decode cX5_isAhead 71 = .ok (.iload_n 2, 1) := by decide +kernel
theorem dX5_isAhead_72 : decode cX5_isAhead 72 = .ok (.iaload, 1) := by decide +kernel
theorem dX5_isAhead_73 : decode cX5_isAhead 73 = .ok (.if_icmp .ge 7, 3) := by decide +kernel
theorem dX5_isAhead_76 : decode cX5_isAhead 76 = .ok (.iconst 1, 1) := by decide +kernel
theorem dX5_isAhead_77 : decode cX5_isAhead 77 = .ok (.goto 4, 3) := by decide +kernel
theorem dX5_isAhead_80 : decode cX5_isAhead 80 = .ok (.iconst 0, 1) := by decide +kernel
theorem dX5_isAhead_81 : decode cX5_isAhead 81 = .ok (.ireturn, 1) := by decide +kernel
theorem dX5_isAhead_82 : decode cX5_isAhead 82 = .ok (.iload_n 3, 1) := by decide +kernel
theorem dX5_isAhead_83 : decode cX5_isAhead 83 = .ok (.iconst 3, 1) := by decide +kernel
theorem dX5_isAhead_84 : decode cX5_isAhead 84 = .ok (.if_icmp .ne 47, 3) := by decide +kernel
theorem dX5_isAhead_87 : decode cX5_isAhead 87 = .ok (.aload_n 0, 1) := by decide +kernel
theorem dX5_isAhead_88 : decode cX5_isAhead 88 = .ok (.getfield 19, 3) := by decide +kernel
theorem dX5_isAhead_91 : decode cX5_isAhead 91 = .ok (.iload_n 1, 1) := by decide +kernel
theorem dX5_isAhead_92 : decode cX5_isAhead 92 = .ok (.iconst 5, 1) := by decide +kernel
theorem dX5_isAhead_93 : decode cX5_isAhead 93 = .ok (.idiv, 1) := by decide +kernel
theorem dX5_isAhead_94 : decode cX5_isAhead 94 = .ok (.iaload, 1) := by decide +kernel
theorem dX5_isAhead_95 : decode cX5_isAhead 95 = .ok (.aload_n 0, 1) := by decide +kernel
theorem dX5_isAhead_96 : decode cX5_isAhead 96 = .ok (.getfield 19, 3) := by decide +kernel
theorem dX5_isAhead_99 : decode cX5_isAhead 99 = .ok (.iload_n 2, 1) := by decide +kernel
theorem dX5_isAhead_100 : decode cX5_isAhead 100 = .ok (.iconst 5, 1) := by decide +kernel
theorem dX5_isAhead_101 : decode cX5_isAhead 101 = .ok (.idiv, 1) := by decide +kernel
theorem dX5_isAhead_102 : decode cX5_isAhead 102 = .ok (.iaload, 1) := by decide +kernel
theorem dX5_isAhead_103 : decode cX5_isAhead 103 = .ok (.if_icmp .eq 28, 3) := by decide +kernel
theorem dX5_isAhead_106 : decode cX5_isAhead 106 = .ok (.aload_n 0, 1) := by decide +kernel
theorem dX5_isAhead_107 : decode cX5_isAhead 107 = .ok (.getfield 19, 3) := by decide +kernel
theorem dX5_isAhead_110 : decode cX5_isAhead 110 = .ok (.iload_n 1, 1) := by decide +kernel
theorem dX5_isAhead_111 : decode cX5_isAhead 111 = .ok (.iconst 5, 1) := by decide +kernel
theorem dX5_isAhead_112 : decode cX5_isAhead 112 = .ok (.idiv, 1) := by decide +kernel
theorem dX5_isAhead_113 : decode cX5_isAhead 113 = .ok (.iaload, 1) := by decide +kernel
theorem dX5_isAhead_114 : decode cX5_isAhead 114 = .ok (.aload_n 0, 1) := by decide +kernel
theorem dX5_isAhead_115 : decode cX5_isAhead 115 = .ok (.getfield 19, 3) := by decide +kernel
theorem dX5_isAhead_118 : decode cX5_isAhead 118 = .ok (.iload_n 2, 1) := by decide +kernel
theorem dX5_isAhead_119 : decode cX5_isAhead 119 = .ok (.iconst 5, 1) := by decide +kernel
theorem dX5_isAhead_120 : decode cX5_isAhead 120 = .ok (.idiv, 1) := by decide +kernel
theorem dX5_isAhead_121 : decode cX5_isAhead 121 = .ok (.iaload, 1) := by decide +kernel
theorem dX5_isAhead_122 : decode cX5_isAhead 122 = .ok (.if_icmp .ge 7, 3) := by decide +kernel
theorem dX5_isAhead_125 : decode cX5_isAhead 125 = .ok (.iconst 1, 1) := by decide +kernel
theorem dX5_isAhead_126 : decode cX5_isAhead 126 = .ok (.goto 4, 3) := by decide +kernel
theorem dX5_isAhead_129 : decode cX5_isAhead 129 = .ok (.iconst 0, 1) := by decide +kernel
theorem dX5_isAhead_130 : decode cX5_isAhead 130 = .ok (.ireturn, 1) := by decide +kernel
theorem dX5_isAhead_131 : decode cX5_isAhead 131 = .ok (.aload_n 0, 1) := by decide +kernel
theorem dX5_isAhead_132 : decode cX5_isAhead 132 = .ok (.getfield 44, 3) := by decide +kernel
theorem dX5_isAhead_135 : decode cX5_isAhead 135 = .ok (.iload_n 1, 1) := by decide +kernel
theorem dX5_isAhead_136 : decode cX5_isAhead 136 = .ok (.iaload, 1) := by decide +kernel
theorem dX5_isAhead_137 : decode cX5_isAhead 137 = .ok (.aload_n 0, 1) := by decide +kernel
theorem dX5_isAhead_138 : decode cX5_isAhead 138 = .ok (.getfield 44, 3) := by decide +kernel
theorem dX5_isAhead_141 : decode cX5_isAhead 141 = .ok (.iload_n 2, 1) := by decide +kernel
theorem dX5_isAhead_142 : decode cX5_isAhead 142 = .ok (.iaload, 1) := by decide +kernel
theorem dX5_isAhead_143 : decode cX5_isAhead 143 = .ok (.if_icmp .eq 26, 3) := by decide +kernel
theorem dX5_isAhead_146 : decode cX5_isAhead 146 = .ok (.aload_n 0, 1) := by decide +kernel
theorem dX5_isAhead_147 : decode cX5_isAhead 147 = .ok (.getfield 44, 3) := by decide +kernel
theorem dX5_isAhead_150 : decode cX5_isAhead 150 = .ok (.iload_n 1, 1) := by decide +kernel
theorem dX5_isAhead_151 : decode cX5_isAhead 151 = .ok (.iaload, 1) := by decide +kernel
theorem dX5_isAhead_152 : decode cX5_isAhead 152 = .ok (.aload_n 0, 1) := by decide +kernel
theorem dX5_isAhead_153 : decode cX5_isAhead 153 = .ok (.getfield 44, 3) := by decide +kernel
theorem dX5_isAhead_156 : decode cX5_isAhead 156 = .ok (.iload_n 2, 1) := by decide +kernel
theorem dX5_isAhead_157 : decode cX5_isAhead 157 = .ok (.iaload, 1) := by decide +kernel
theorem dX5_isAhead_158 : decode cX5_isAhead 158 = .ok (.if_icmp .ge 7, 3) := by decide +kernel
theorem dX5_isAhead_161 : decode cX5_isAhead 161 = .ok (.iconst 1, 1) := by decide +kernel
theorem dX5_isAhead_162 : decode cX5_isAhead 162 = .ok (.goto 17, 3) := by decide +kernel
theorem dX5_isAhead_165 : decode cX5_isAhead 165 = .ok (.iconst 0, 1) := by decide +kernel
theorem dX5_isAhead_166 : decode cX5_isAhead 166 = .ok (.goto 13, 3) := by decide +kernel
theorem dX5_isAhead_169 : decode cX5_isAhead 169 = .ok (.iload_n 1, 1) := by decide +kernel
theorem dX5_isAhead_170 : decode cX5_isAhead 170 = .ok (.iload_n 2, 1) := by decide +kernel
theorem dX5_isAhead_171 : decode cX5_isAhead 171 = .ok (.if_icmp .ge 7, 3) := by decide +kernel
theorem dX5_isAhead_174 : decode cX5_isAhead 174 = .ok (.iconst 1, 1) := by decide +kernel
theorem dX5_isAhead_175 : decode cX5_isAhead 175 = .ok (.goto 4, 3) := by decide +kernel
theorem dX5_isAhead_178 : decode cX5_isAhead 178 = .ok (.iconst 0, 1) := by decide +kernel
theorem dX5_isAhead_179 : decode cX5_isAhead 179 = .ok (.ireturn, 1) := by decide +kernel
theorem dX5_next_0 : decode cX5_next 0 = .ok (.iconst (-1), 1) := by decide +kernel
theorem dX5_next_1 : decode cX5_next 1 = .ok (.istore_n 3, 1) := by decide +kernel
theorem dX5_next_2 : decode cX5_next 2 = .ok (.iconst 0, 1) := by decide +kernel
theorem dX5_next_3 : decode cX5_next 3 = .ok (.istore 4, 2) := by decide +kernel
theorem dX5_next_5 : decode cX5_next 5 = .ok (.iload 4, 2) := by decide +kernel
theorem dX5_next_7 : decode cX5_next 7 = .ok (.iconst 5, 1) := by decide +kernel
theorem dX5_next_8 : decode cX5_next 8 = .ok (.aload_n 0, 1) := by decide +kernel
theorem dX5_next_9 : decode cX5_next 9 = .ok (.getfield 70, 3) := by decide +kernel
theorem dX5_next_12 : decode cX5_next 12 = .ok (.imul, 1) := by decide +kernel
theorem dX5_next_13 : decode cX5_next 13 = .ok (.if_icmp .ge 48, 3) := by decide +kernel
theorem dX5_next_16 : decode cX5_next 16 = .ok (.aload_n 0, 1) := by decide +kernel
theorem dX5_next_17 : decode cX5_next 17 = .ok (.getfield 53, 3) := by decide +kernel
theorem dX5_next_20 : decode cX5_next 20 = .ok (.iload 4, 2) := by decide +kernel
theorem dX5_next_22 : decode cX5_next 22 = .ok (.baload, 1) := by decide +kernel
theorem dX5_next_23 : decode cX5_next 23 = .ok (.ifCond .eq 32, 3) := by decide +kernel
theorem dX5_next_26 : decode cX5_next 26 = .ok (.aload_n 0, 1) := by decide +kernel
theorem dX5_next_27 : decode cX5_next 27 = .ok (.getfield 28, 3) := by decide +kernel
theorem dX5_next_30 : decode cX5_next 30 = .ok (.iload 4, 2) := by decide +kernel
theorem dX5_next_32 : decode cX5_next 32 = .ok (.iaload, 1) := by decide +kernel
theorem dX5_next_33 : decode cX5_next 33 = .ok (.iload_n 1, 1) := by decide +kernel
theorem dX5_next_34 : decode cX5_next 34 = .ok (.if_icmp .ne 21, 3) := by decide +kernel
theorem dX5_next_37 : decode cX5_next 37 = .ok (.iload_n 3, 1) := by decide +kernel
theorem dX5_next_38 : decode cX5_next 38 = .ok (.ifCond .lt 14, 3) := by decide +kernel
theorem dX5_next_41 : decode cX5_next 41 = .ok (.aload_n 0, 1) := by decide +kernel
theorem dX5_next_42 : decode cX5_next 42 = .ok (.iload 4, 2) := by decide +kernel
theorem dX5_next_44 : decode cX5_next 44 = .ok (.iload_n 3, 1) := by decide +kernel
theorem dX5_next_45 : decode cX5_next 45 = .ok (.iload_n 2, 1) := by decide +kernel
theorem dX5_next_46 : decode cX5_next 46 = .ok (.invokevirtual 93, 3) := by decide +kernel
theorem dX5_next_49 : decode cX5_next 49 = .ok (.ifCond .eq 6, 3) := by decide +kernel
theorem dX5_next_52 : decode cX5_next 52 = .ok (.iload 4, 2) := by decide +kernel
theorem dX5_next_54 : decode cX5_next 54 = .ok (.istore_n 3, 1) := by decide +kernel
theorem dX5_next_55 : decode cX5_next 55 = .ok (.iinc 4 1, 3) := by decide +kernel
theorem dX5_next_58 : decode cX5_next 58 = .ok (.goto (-53), 3) := by decide +kernel
theorem dX5_next_61 : decode cX5_next 61 = .ok (.iload_n 3, 1) := by decide +kernel
theorem dX5_next_62 : decode cX5_next 62 = .ok (.ireturn, 1) := by decide +kernel
theorem dX5_busy_0 : decode cX5_busy 0 = .ok (.iconst 0, 1) := by decide +kernel
theorem dX5_busy_1 : decode cX5_busy 1 = .ok (.istore_n 3, 1) := by decide +kernel
theorem dX5_busy_2 : decode cX5_busy 2 = .ok (.iconst 0, 1) := by decide +kernel
theorem dX5_busy_3 : decode cX5_busy 3 = .ok (.istore 4, 2) := by decide +kernel
theorem dX5_busy_5 : decode cX5_busy 5 = .ok (.iload 4, 2) := by decide +kernel
theorem dX5_busy_7 : decode cX5_busy 7 = .ok (.iconst 5, 1) := by decide +kernel
theorem dX5_busy_8 : decode cX5_busy 8 = .ok (.aload_n 0, 1) := by decide +kernel
theorem dX5_busy_9 : decode cX5_busy 9 = .ok (.getfield 70, 3) := by decide +kernel
theorem dX5_busy_12 : decode cX5_busy 12 = .ok (.imul, 1) := by decide +kernel
theorem dX5_busy_13 : decode cX5_busy 13 = .ok (.if_icmp .ge 62, 3) := by decide +kernel
theorem dX5_busy_16 : decode cX5_busy 16 = .ok (.iload_n 3, 1) := by decide +kernel
theorem dX5_busy_17 : decode cX5_busy 17 = .ok (.aload_n 0, 1) := by decide +kernel
theorem dX5_busy_18 : decode cX5_busy 18 = .ok (.getfield 28, 3) := by decide +kernel
theorem dX5_busy_21 : decode cX5_busy 21 = .ok (.iload 4, 2) := by decide +kernel
theorem dX5_busy_23 : decode cX5_busy 23 = .ok (.iaload, 1) := by decide +kernel
theorem dX5_busy_24 : decode cX5_busy 24 = .ok (.iload_n 1, 1) := by decide +kernel
theorem dX5_busy_25 : decode cX5_busy 25 = .ok (.if_icmp .ne 41, 3) := by decide +kernel
theorem dX5_busy_28 : decode cX5_busy 28 = .ok (.aload_n 0, 1) := by decide +kernel
theorem dX5_busy_29 : decode cX5_busy 29 = .ok (.getfield 47, 3) := by decide +kernel
theorem dX5_busy_32 : decode cX5_busy 32 = .ok (.iload 4, 2) := by decide +kernel
theorem dX5_busy_34 : decode cX5_busy 34 = .ok (.iaload, 1) := by decide +kernel
theorem dX5_busy_35 : decode cX5_busy 35 = .ok (.iload_n 2, 1) := by decide +kernel
theorem dX5_busy_36 : decode cX5_busy 36 = .ok (.if_icmp .gt 30, 3) := by decide +kernel
theorem dX5_busy_39 : decode cX5_busy 39 = .ok (.aload_n 0, 1) := by decide +kernel
theorem dX5_busy_40 : decode cX5_busy 40 = .ok (.getfield 50, 3) := by decide +kernel
theorem dX5_busy_43 : decode cX5_busy 43 = .ok (.iload 4, 2) := by decide +kernel
theorem dX5_busy_45 : decode cX5_busy 45 = .ok (.iaload, 1) := by decide +kernel
theorem dX5_busy_46 : decode cX5_busy 46 = .ok (.iload_n 2, 1) := by decide +kernel
theorem dX5_busy_47 : decode cX5_busy 47 = .ok (.if_icmp .le 19, 3) := by decide +kernel
theorem dX5_busy_50 : decode cX5_busy 50 = .ok (.aload_n 0, 1) := by decide +kernel
theorem dX5_busy_51 : decode cX5_busy 51 = .ok (.getfield 50, 3) := by decide +kernel
theorem dX5_busy_54 : decode cX5_busy 54 = .ok (.iload 4, 2) := by decide +kernel
theorem dX5_busy_56 : decode cX5_busy 56 = .ok (.iaload, 1) := by decide +kernel
theorem dX5_busy_57 : decode cX5_busy 57 = .ok (.ldc 96, 2) := by decide +kernel
theorem dX5_busy_59 : decode cX5_busy 59 = .ok (.if_icmp .ge 7, 3) := by decide +kernel
theorem dX5_busy_62 : decode cX5_busy 62 = .ok (.iconst 1, 1) := by decide +kernel
theorem dX5_busy_63 : decode cX5_busy 63 = .ok (.goto 4, 3) := by decide +kernel
theorem dX5_busy_66 : decode cX5_busy 66 = .ok (.iconst 0, 1) := by decide +kernel
theorem dX5_busy_67 : decode cX5_busy 67 = .ok (.iadd, 1) := by decide +kernel
theorem dX5_busy_68 : decode cX5_busy 68 = .ok (.istore_n 3, 1) := by decide +kernel
theorem dX5_busy_69 : decode cX5_busy 69 = .ok (.iinc 4 1, 3) := by decide +kernel
theorem dX5_busy_72 : decode cX5_busy 72 = .ok (.goto (-67), 3) := by decide +kernel
theorem dX5_busy_75 : decode cX5_busy 75 = .ok (.iload_n 3, 1) := by decide +kernel
theorem dX5_busy_76 : decode cX5_busy 76 = .ok (.ireturn, 1) := by decide +kernel
theorem dX5_begins_0 : decode cX5_begins 0 = .ok (.iload_n 2, 1) := by decide +kernel
theorem dX5_begins_1 : decode cX5_begins 1 = .ok (.aload_n 0, 1) := by decide +kernel
theorem dX5_begins_2 : decode cX5_begins 2 = .ok (.iload_n 1, 1) := by decide +kernel
theorem dX5_begins_3 : decode cX5_begins 3 = .ok (.iload 4, 2) := by decide +kernel
theorem dX5_begins_5 : decode cX5_begins 5 = .ok (.invokevirtual 97, 3) := by decide +kernel
theorem dX5_begins_8 : decode cX5_begins 8 = .ok (.isub, 1) := by decide +kernel
theorem dX5_begins_9 : decode cX5_begins 9 = .ok (.istore 5, 2) := by decide +kernel
theorem dX5_begins_11 : decode cX5_begins 11 = .ok (.aload_n 0, 1) := by decide +kernel
theorem dX5_begins_12 : decode cX5_begins 12 = .ok (.iload_n 1, 1) := by decide +kernel
theorem dX5_begins_13 : decode cX5_begins 13 = .ok (.iload_n 3, 1) := by decide +kernel
theorem dX5_begins_14 : decode cX5_begins 14 = .ok (.invokevirtual 101, 3) := by decide +kernel
theorem dX5_begins_17 : decode cX5_begins 17 = .ok (.istore 6, 2) := by decide +kernel
theorem dX5_begins_19 : decode cX5_begins 19 = .ok (.iload 5, 2) := by decide +kernel
theorem dX5_begins_21 : decode cX5_begins 21 = .ok (.ifCond .le 56, 3) := by decide +kernel
theorem dX5_begins_24 : decode cX5_begins 24 = .ok (.iload 6, 2) := by decide +kernel
theorem dX5_begins_26 : decode cX5_begins 26 = .ok (.ifCond .lt 51, 3) := by decide +kernel
theorem dX5_begins_29 : decode cX5_begins 29 = .ok (.aload_n 0, 1) := by decide +kernel
theorem dX5_begins_30 : decode cX5_begins 30 = .ok (.getfield 53, 3) := by decide +kernel
theorem dX5_begins_33 : decode cX5_begins 33 = .ok (.iload 6, 2) := by decide +kernel
theorem dX5_begins_35 : decode cX5_begins 35 = .ok (.iconst 0, 1) := by decide +kernel
theorem dX5_begins_36 : decode cX5_begins 36 = .ok (.bastore, 1) := by decide +kernel
theorem dX5_begins_37 : decode cX5_begins 37 = .ok (.aload_n 0, 1) := by decide +kernel
theorem dX5_begins_38 : decode cX5_begins 38 = .ok (.getfield 47, 3) := by decide +kernel
theorem dX5_begins_41 : decode cX5_begins 41 = .ok (.iload 6, 2) := by decide +kernel
theorem dX5_begins_43 : decode cX5_begins 43 = .ok (.iload 4, 2) := by decide +kernel
theorem dX5_begins_45 : decode cX5_begins 45 = .ok (.iastore, 1) := by decide +kernel
theorem dX5_begins_46 : decode cX5_begins 46 = .ok (.aload_n 0, 1) := by decide +kernel
theorem dX5_begins_47 : decode cX5_begins 47 = .ok (.getfield 50, 3) := by decide +kernel
theorem dX5_begins_50 : decode cX5_begins 50 = .ok (.iload 6, 2) := by decide +kernel
theorem dX5_begins_52 : decode cX5_begins 52 = .ok (.iload 4, 2) := by decide +kernel
theorem dX5_begins_54 : decode cX5_begins 54 = .ok (.aload_n 0, 1) := by decide +kernel
theorem dX5_begins_55 : decode cX5_begins 55 = .ok (.getfield 56, 3) := by decide +kernel
theorem dX5_begins_58 : decode cX5_begins 58 = .ok (.iload 6, 2) := by decide +kernel
theorem dX5_begins_60 : decode cX5_begins 60 = .ok (.iaload, 1) := by decide +kernel
theorem dX5_begins_61 : decode cX5_begins 61 = .ok (.iadd, 1) := by decide +kernel
theorem dX5_begins_62 : decode cX5_begins 62 = .ok (.iastore, 1) := by decide +kernel
theorem dX5_begins_63 : decode cX5_begins 63 = .ok (.iinc 5 (-1), 3) := by decide +kernel
theorem dX5_begins_66 : decode cX5_begins 66 = .ok (.aload_n 0, 1) := by decide +kernel
end
section
theorem dX5_begins_67 : decode cX5_begins 67 = .ok (.iload_n 1, 1) := by decide +kernel
theorem dX5_begins_68 : decode cX5_begins 68 = .ok (.iload_n 3, 1) := by decide +kernel
theorem dX5_begins_69 : decode cX5_begins 69 = .ok (.invokevirtual 101, 3) := by decide +kernel
theorem dX5_begins_72 : decode cX5_begins 72 = .ok (.istore 6, 2) := by decide +kernel
theorem dX5_begins_74 : decode cX5_begins 74 = .ok (.goto (-55), 3) := by decide +kernel
theorem dX5_begins_77 : decode cX5_begins 77 = .ok (.return_, 1) := by decide +kernel
theorem dX5_forgets_0 : decode cX5_forgets 0 = .ok (.iconst 0, 1) := by decide +kernel
theorem dX5_forgets_1 : decode cX5_forgets 1 = .ok (.istore_n 1, 1) := by decide +kernel
theorem dX5_forgets_2 : decode cX5_forgets 2 = .ok (.iload_n 1, 1) := by decide +kernel
theorem dX5_forgets_3 : decode cX5_forgets 3 = .ok (.sipush 300, 3) := by decide +kernel
theorem dX5_forgets_6 : decode cX5_forgets 6 = .ok (.if_icmp .ge 40, 3) := by decide +kernel
theorem dX5_forgets_9 : decode cX5_forgets 9 = .ok (.aload_n 0, 1) := by decide +kernel
theorem dX5_forgets_10 : decode cX5_forgets 10 = .ok (.getfield 44, 3) := by decide +kernel
theorem dX5_forgets_13 : decode cX5_forgets 13 = .ok (.iload_n 1, 1) := by decide +kernel
theorem dX5_forgets_14 : decode cX5_forgets 14 = .ok (.ldc 96, 2) := by decide +kernel
theorem dX5_forgets_16 : decode cX5_forgets 16 = .ok (.iastore, 1) := by decide +kernel
theorem dX5_forgets_17 : decode cX5_forgets 17 = .ok (.aload_n 0, 1) := by decide +kernel
theorem dX5_forgets_18 : decode cX5_forgets 18 = .ok (.getfield 47, 3) := by decide +kernel
theorem dX5_forgets_21 : decode cX5_forgets 21 = .ok (.iload_n 1, 1) := by decide +kernel
theorem dX5_forgets_22 : decode cX5_forgets 22 = .ok (.ldc 96, 2) := by decide +kernel
theorem dX5_forgets_24 : decode cX5_forgets 24 = .ok (.iastore, 1) := by decide +kernel
theorem dX5_forgets_25 : decode cX5_forgets 25 = .ok (.aload_n 0, 1) := by decide +kernel
theorem dX5_forgets_26 : decode cX5_forgets 26 = .ok (.getfield 50, 3) := by decide +kernel
theorem dX5_forgets_29 : decode cX5_forgets 29 = .ok (.iload_n 1, 1) := by decide +kernel
theorem dX5_forgets_30 : decode cX5_forgets 30 = .ok (.ldc 96, 2) := by decide +kernel
theorem dX5_forgets_32 : decode cX5_forgets 32 = .ok (.iastore, 1) := by decide +kernel
theorem dX5_forgets_33 : decode cX5_forgets 33 = .ok (.aload_n 0, 1) := by decide +kernel
theorem dX5_forgets_34 : decode cX5_forgets 34 = .ok (.getfield 53, 3) := by decide +kernel
theorem dX5_forgets_37 : decode cX5_forgets 37 = .ok (.iload_n 1, 1) := by decide +kernel
theorem dX5_forgets_38 : decode cX5_forgets 38 = .ok (.iconst 0, 1) := by decide +kernel
theorem dX5_forgets_39 : decode cX5_forgets 39 = .ok (.bastore, 1) := by decide +kernel
theorem dX5_forgets_40 : decode cX5_forgets 40 = .ok (.iinc 1 1, 3) := by decide +kernel
theorem dX5_forgets_43 : decode cX5_forgets 43 = .ok (.goto (-41), 3) := by decide +kernel
theorem dX5_forgets_46 : decode cX5_forgets 46 = .ok (.return_, 1) := by decide +kernel
theorem dX5_plays_0 : decode cX5_plays 0 = .ok (.aload_n 0, 1) := by decide +kernel
theorem dX5_plays_1 : decode cX5_plays 1 = .ok (.invokevirtual 104, 3) := by decide +kernel
theorem dX5_plays_4 : decode cX5_plays 4 = .ok (.iconst 0, 1) := by decide +kernel
theorem dX5_plays_5 : decode cX5_plays 5 = .ok (.istore_n 2, 1) := by decide +kernel
theorem dX5_plays_6 : decode cX5_plays 6 = .ok (.iload_n 2, 1) := by decide +kernel
theorem dX5_plays_7 : decode cX5_plays 7 = .ok (.sipush 300, 3) := by decide +kernel
theorem dX5_plays_10 : decode cX5_plays 10 = .ok (.if_icmp .ge 21, 3) := by decide +kernel
theorem dX5_plays_13 : decode cX5_plays 13 = .ok (.aload_n 0, 1) := by decide +kernel
theorem dX5_plays_14 : decode cX5_plays 14 = .ok (.getfield 56, 3) := by decide +kernel
theorem dX5_plays_17 : decode cX5_plays 17 = .ok (.iload_n 2, 1) := by decide +kernel
theorem dX5_plays_18 : decode cX5_plays 18 = .ok (.aload_n 0, 1) := by decide +kernel
theorem dX5_plays_19 : decode cX5_plays 19 = .ok (.getfield 31, 3) := by decide +kernel
theorem dX5_plays_22 : decode cX5_plays 22 = .ok (.iload_n 2, 1) := by decide +kernel
theorem dX5_plays_23 : decode cX5_plays 23 = .ok (.iaload, 1) := by decide +kernel
theorem dX5_plays_24 : decode cX5_plays 24 = .ok (.iastore, 1) := by decide +kernel
theorem dX5_plays_25 : decode cX5_plays 25 = .ok (.iinc 2 1, 3) := by decide +kernel
theorem dX5_plays_28 : decode cX5_plays 28 = .ok (.goto (-22), 3) := by decide +kernel
theorem dX5_plays_31 : decode cX5_plays 31 = .ok (.iconst 0, 1) := by decide +kernel
theorem dX5_plays_32 : decode cX5_plays 32 = .ok (.istore_n 2, 1) := by decide +kernel
theorem dX5_plays_33 : decode cX5_plays 33 = .ok (.iload_n 2, 1) := by decide +kernel
theorem dX5_plays_34 : decode cX5_plays 34 = .ok (.aload_n 0, 1) := by decide +kernel
theorem dX5_plays_35 : decode cX5_plays 35 = .ok (.getfield 70, 3) := by decide +kernel
theorem dX5_plays_38 : decode cX5_plays 38 = .ok (.if_icmp .ge 23, 3) := by decide +kernel
theorem dX5_plays_41 : decode cX5_plays 41 = .ok (.aload_n 0, 1) := by decide +kernel
theorem dX5_plays_42 : decode cX5_plays 42 = .ok (.getfield 44, 3) := by decide +kernel
theorem dX5_plays_45 : decode cX5_plays 45 = .ok (.iconst 5, 1) := by decide +kernel
theorem dX5_plays_46 : decode cX5_plays 46 = .ok (.iload_n 2, 1) := by decide +kernel
theorem dX5_plays_47 : decode cX5_plays 47 = .ok (.imul, 1) := by decide +kernel
theorem dX5_plays_48 : decode cX5_plays 48 = .ok (.aload_n 0, 1) := by decide +kernel
theorem dX5_plays_49 : decode cX5_plays 49 = .ok (.getfield 22, 3) := by decide +kernel
theorem dX5_plays_52 : decode cX5_plays 52 = .ok (.iload_n 2, 1) := by decide +kernel
theorem dX5_plays_53 : decode cX5_plays 53 = .ok (.iaload, 1) := by decide +kernel
theorem dX5_plays_54 : decode cX5_plays 54 = .ok (.iastore, 1) := by decide +kernel
theorem dX5_plays_55 : decode cX5_plays 55 = .ok (.iinc 2 1, 3) := by decide +kernel
theorem dX5_plays_58 : decode cX5_plays 58 = .ok (.goto (-25), 3) := by decide +kernel
theorem dX5_plays_61 : decode cX5_plays 61 = .ok (.iconst (-1), 1) := by decide +kernel
theorem dX5_plays_62 : decode cX5_plays 62 = .ok (.istore_n 2, 1) := by decide +kernel
theorem dX5_plays_63 : decode cX5_plays 63 = .ok (.ldc 96, 2) := by decide +kernel
theorem dX5_plays_65 : decode cX5_plays 65 = .ok (.istore_n 3, 1) := by decide +kernel
theorem dX5_plays_66 : decode cX5_plays 66 = .ok (.iconst 0, 1) := by decide +kernel
theorem dX5_plays_67 : decode cX5_plays 67 = .ok (.istore 4, 2) := by decide +kernel
theorem dX5_plays_69 : decode cX5_plays 69 = .ok (.iload 4, 2) := by decide +kernel
theorem dX5_plays_71 : decode cX5_plays 71 = .ok (.iconst 5, 1) := by decide +kernel
theorem dX5_plays_72 : decode cX5_plays 72 = .ok (.aload_n 0, 1) := by decide +kernel
theorem dX5_plays_73 : decode cX5_plays 73 = .ok (.getfield 70, 3) := by decide +kernel
theorem dX5_plays_76 : decode cX5_plays 76 = .ok (.imul, 1) := by decide +kernel
theorem dX5_plays_77 : decode cX5_plays 77 = .ok (.if_icmp .ge 55, 3) := by decide +kernel
theorem dX5_plays_80 : decode cX5_plays 80 = .ok (.aload_n 0, 1) := by decide +kernel
theorem dX5_plays_81 : decode cX5_plays 81 = .ok (.getfield 44, 3) := by decide +kernel
theorem dX5_plays_84 : decode cX5_plays 84 = .ok (.iload 4, 2) := by decide +kernel
theorem dX5_plays_86 : decode cX5_plays 86 = .ok (.iaload, 1) := by decide +kernel
theorem dX5_plays_87 : decode cX5_plays 87 = .ok (.iload_n 2, 1) := by decide +kernel
theorem dX5_plays_88 : decode cX5_plays 88 = .ok (.if_icmp .le 15, 3) := by decide +kernel
theorem dX5_plays_91 : decode cX5_plays 91 = .ok (.iload_n 3, 1) := by decide +kernel
theorem dX5_plays_92 : decode cX5_plays 92 = .ok (.aload_n 0, 1) := by decide +kernel
theorem dX5_plays_93 : decode cX5_plays 93 = .ok (.getfield 44, 3) := by decide +kernel
theorem dX5_plays_96 : decode cX5_plays 96 = .ok (.iload 4, 2) := by decide +kernel
theorem dX5_plays_98 : decode cX5_plays 98 = .ok (.iaload, 1) := by decide +kernel
theorem dX5_plays_99 : decode cX5_plays 99 = .ok (.invokestatic 107, 3) := by decide +kernel
theorem dX5_plays_102 : decode cX5_plays 102 = .ok (.istore_n 3, 1) := by decide +kernel
theorem dX5_plays_103 : decode cX5_plays 103 = .ok (.aload_n 0, 1) := by decide +kernel
theorem dX5_plays_104 : decode cX5_plays 104 = .ok (.getfield 50, 3) := by decide +kernel
theorem dX5_plays_107 : decode cX5_plays 107 = .ok (.iload 4, 2) := by decide +kernel
theorem dX5_plays_109 : decode cX5_plays 109 = .ok (.iaload, 1) := by decide +kernel
theorem dX5_plays_110 : decode cX5_plays 110 = .ok (.iload_n 2, 1) := by decide +kernel
theorem dX5_plays_111 : decode cX5_plays 111 = .ok (.if_icmp .le 15, 3) := by decide +kernel
theorem dX5_plays_114 : decode cX5_plays 114 = .ok (.iload_n 3, 1) := by decide +kernel
theorem dX5_plays_115 : decode cX5_plays 115 = .ok (.aload_n 0, 1) := by decide +kernel
theorem dX5_plays_116 : decode cX5_plays 116 = .ok (.getfield 50, 3) := by decide +kernel
theorem dX5_plays_119 : decode cX5_plays 119 = .ok (.iload 4, 2) := by decide +kernel
theorem dX5_plays_121 : decode cX5_plays 121 = .ok (.iaload, 1) := by decide +kernel
theorem dX5_plays_122 : decode cX5_plays 122 = .ok (.invokestatic 107, 3) := by decide +kernel
theorem dX5_plays_125 : decode cX5_plays 125 = .ok (.istore_n 3, 1) := by decide +kernel
theorem dX5_plays_126 : decode cX5_plays 126 = .ok (.iinc 4 1, 3) := by decide +kernel
theorem dX5_plays_129 : decode cX5_plays 129 = .ok (.goto (-60), 3) := by decide +kernel
theorem dX5_plays_132 : decode cX5_plays 132 = .ok (.iload_n 3, 1) := by decide +kernel
theorem dX5_plays_133 : decode cX5_plays 133 = .ok (.ldc 96, 2) := by decide +kernel
theorem dX5_plays_135 : decode cX5_plays 135 = .ok (.if_icmp .ne 9, 3) := by decide +kernel
theorem dX5_plays_138 : decode cX5_plays 138 = .ok (.iconst 0, 1) := by decide +kernel
theorem dX5_plays_139 : decode cX5_plays 139 = .ok (.iload_n 2, 1) := by decide +kernel
theorem dX5_plays_140 : decode cX5_plays 140 = .ok (.invokestatic 112, 3) := by decide +kernel
theorem dX5_plays_143 : decode cX5_plays 143 = .ok (.ireturn, 1) := by decide +kernel
theorem dX5_plays_144 : decode cX5_plays 144 = .ok (.iload_n 3, 1) := by decide +kernel
theorem dX5_plays_145 : decode cX5_plays 145 = .ok (.istore_n 2, 1) := by decide +kernel
theorem dX5_plays_146 : decode cX5_plays 146 = .ok (.iconst 0, 1) := by decide +kernel
theorem dX5_plays_147 : decode cX5_plays 147 = .ok (.istore 4, 2) := by decide +kernel
theorem dX5_plays_149 : decode cX5_plays 149 = .ok (.iload 4, 2) := by decide +kernel
theorem dX5_plays_151 : decode cX5_plays 151 = .ok (.iconst 5, 1) := by decide +kernel
theorem dX5_plays_152 : decode cX5_plays 152 = .ok (.aload_n 0, 1) := by decide +kernel
theorem dX5_plays_153 : decode cX5_plays 153 = .ok (.getfield 70, 3) := by decide +kernel
theorem dX5_plays_156 : decode cX5_plays 156 = .ok (.imul, 1) := by decide +kernel
theorem dX5_plays_157 : decode cX5_plays 157 = .ok (.if_icmp .ge 61, 3) := by decide +kernel
theorem dX5_plays_160 : decode cX5_plays 160 = .ok (.aload_n 0, 1) := by decide +kernel
theorem dX5_plays_161 : decode cX5_plays 161 = .ok (.getfield 50, 3) := by decide +kernel
theorem dX5_plays_164 : decode cX5_plays 164 = .ok (.iload 4, 2) := by decide +kernel
theorem dX5_plays_166 : decode cX5_plays 166 = .ok (.iaload, 1) := by decide +kernel
theorem dX5_plays_167 : decode cX5_plays 167 = .ok (.iload_n 2, 1) := by decide +kernel
theorem dX5_plays_168 : decode cX5_plays 168 = .ok (.if_icmp .ne 44, 3) := by decide +kernel
theorem dX5_plays_171 : decode cX5_plays 171 = .ok (.iload 4, 2) := by decide +kernel
theorem dX5_plays_173 : decode cX5_plays 173 = .ok (.iconst 5, 1) := by decide +kernel
theorem dX5_plays_174 : decode cX5_plays 174 = .ok (.irem, 1) := by decide +kernel
theorem dX5_plays_175 : decode cX5_plays 175 = .ok (.iconst 1, 1) := by decide +kernel
theorem dX5_plays_176 : decode cX5_plays 176 = .ok (.iadd, 1) := by decide +kernel
theorem dX5_plays_177 : decode cX5_plays 177 = .ok (.aload_n 0, 1) := by decide +kernel
theorem dX5_plays_178 : decode cX5_plays 178 = .ok (.getfield 25, 3) := by decide +kernel
theorem dX5_plays_181 : decode cX5_plays 181 = .ok (.iload 4, 2) := by decide +kernel
theorem dX5_plays_183 : decode cX5_plays 183 = .ok (.iconst 5, 1) := by decide +kernel
theorem dX5_plays_184 : decode cX5_plays 184 = .ok (.idiv, 1) := by decide +kernel
theorem dX5_plays_185 : decode cX5_plays 185 = .ok (.iaload, 1) := by decide +kernel
theorem dX5_plays_186 : decode cX5_plays 186 = .ok (.if_icmp .ge 26, 3) := by decide +kernel
theorem dX5_plays_189 : decode cX5_plays 189 = .ok (.aload_n 0, 1) := by decide +kernel
theorem dX5_plays_190 : decode cX5_plays 190 = .ok (.getfield 44, 3) := by decide +kernel
theorem dX5_plays_193 : decode cX5_plays 193 = .ok (.iload 4, 2) := by decide +kernel
theorem dX5_plays_195 : decode cX5_plays 195 = .ok (.iconst 1, 1) := by decide +kernel
theorem dX5_plays_196 : decode cX5_plays 196 = .ok (.iadd, 1) := by decide +kernel
theorem dX5_plays_197 : decode cX5_plays 197 = .ok (.iload_n 2, 1) := by decide +kernel
theorem dX5_plays_198 : decode cX5_plays 198 = .ok (.aload_n 0, 1) := by decide +kernel
theorem dX5_plays_199 : decode cX5_plays 199 = .ok (.getfield 16, 3) := by decide +kernel
theorem dX5_plays_202 : decode cX5_plays 202 = .ok (.aload_n 0, 1) := by decide +kernel
theorem dX5_plays_203 : decode cX5_plays 203 = .ok (.getfield 28, 3) := by decide +kernel
theorem dX5_plays_206 : decode cX5_plays 206 = .ok (.iload 4, 2) := by decide +kernel
theorem dX5_plays_208 : decode cX5_plays 208 = .ok (.iaload, 1) := by decide +kernel
theorem dX5_plays_209 : decode cX5_plays 209 = .ok (.iaload, 1) := by decide +kernel
theorem dX5_plays_210 : decode cX5_plays 210 = .ok (.iadd, 1) := by decide +kernel
theorem dX5_plays_211 : decode cX5_plays 211 = .ok (.iastore, 1) := by decide +kernel
theorem dX5_plays_212 : decode cX5_plays 212 = .ok (.iinc 4 1, 3) := by decide +kernel
theorem dX5_plays_215 : decode cX5_plays 215 = .ok (.goto (-66), 3) := by decide +kernel
theorem dX5_plays_218 : decode cX5_plays 218 = .ok (.iconst 0, 1) := by decide +kernel
theorem dX5_plays_219 : decode cX5_plays 219 = .ok (.istore 4, 2) := by decide +kernel
theorem dX5_plays_221 : decode cX5_plays 221 = .ok (.iload 4, 2) := by decide +kernel
theorem dX5_plays_223 : decode cX5_plays 223 = .ok (.iconst 5, 1) := by decide +kernel
theorem dX5_plays_224 : decode cX5_plays 224 = .ok (.aload_n 0, 1) := by decide +kernel
theorem dX5_plays_225 : decode cX5_plays 225 = .ok (.getfield 70, 3) := by decide +kernel
theorem dX5_plays_228 : decode cX5_plays 228 = .ok (.imul, 1) := by decide +kernel
theorem dX5_plays_229 : decode cX5_plays 229 = .ok (.if_icmp .ge 40, 3) := by decide +kernel
theorem dX5_plays_232 : decode cX5_plays 232 = .ok (.aload_n 0, 1) := by decide +kernel
theorem dX5_plays_233 : decode cX5_plays 233 = .ok (.getfield 44, 3) := by decide +kernel
theorem dX5_plays_236 : decode cX5_plays 236 = .ok (.iload 4, 2) := by decide +kernel
theorem dX5_plays_238 : decode cX5_plays 238 = .ok (.iaload, 1) := by decide +kernel
theorem dX5_plays_239 : decode cX5_plays 239 = .ok (.iload_n 2, 1) := by decide +kernel
theorem dX5_plays_240 : decode cX5_plays 240 = .ok (.if_icmp .ne 23, 3) := by decide +kernel
theorem dX5_plays_243 : decode cX5_plays 243 = .ok (.aload_n 0, 1) := by decide +kernel
theorem dX5_plays_244 : decode cX5_plays 244 = .ok (.getfield 47, 3) := by decide +kernel
theorem dX5_plays_247 : decode cX5_plays 247 = .ok (.iload 4, 2) := by decide +kernel
theorem dX5_plays_249 : decode cX5_plays 249 = .ok (.iaload, 1) := by decide +kernel
theorem dX5_plays_250 : decode cX5_plays 250 = .ok (.ldc 96, 2) := by decide +kernel
theorem dX5_plays_252 : decode cX5_plays 252 = .ok (.if_icmp .ne 11, 3) := by decide +kernel
theorem dX5_plays_255 : decode cX5_plays 255 = .ok (.aload_n 0, 1) := by decide +kernel
theorem dX5_plays_256 : decode cX5_plays 256 = .ok (.getfield 53, 3) := by decide +kernel
theorem dX5_plays_259 : decode cX5_plays 259 = .ok (.iload 4, 2) := by decide +kernel
theorem dX5_plays_261 : decode cX5_plays 261 = .ok (.iconst 1, 1) := by decide +kernel
theorem dX5_plays_262 : decode cX5_plays 262 = .ok (.bastore, 1) := by decide +kernel
theorem dX5_plays_263 : decode cX5_plays 263 = .ok (.iinc 4 1, 3) := by decide +kernel
theorem dX5_plays_266 : decode cX5_plays 266 = .ok (.goto (-45), 3) := by decide +kernel
theorem dX5_plays_269 : decode cX5_plays 269 = .ok (.iconst 0, 1) := by decide +kernel
theorem dX5_plays_270 : decode cX5_plays 270 = .ok (.istore 4, 2) := by decide +kernel
theorem dX5_plays_272 : decode cX5_plays 272 = .ok (.iload 4, 2) := by decide +kernel
theorem dX5_plays_274 : decode cX5_plays 274 = .ok (.aload_n 0, 1) := by decide +kernel
theorem dX5_plays_275 : decode cX5_plays 275 = .ok (.getfield 63, 3) := by decide +kernel
theorem dX5_plays_278 : decode cX5_plays 278 = .ok (.if_icmp .ge 42, 3) := by decide +kernel
theorem dX5_plays_281 : decode cX5_plays 281 = .ok (.aload_n 0, 1) := by decide +kernel
theorem dX5_plays_282 : decode cX5_plays 282 = .ok (.iload 4, 2) := by decide +kernel
theorem dX5_plays_284 : decode cX5_plays 284 = .ok (.aload_n 0, 1) := by decide +kernel
theorem dX5_plays_285 : decode cX5_plays 285 = .ok (.getfield 9, 3) := by decide +kernel
theorem dX5_plays_288 : decode cX5_plays 288 = .ok (.iload 4, 2) := by decide +kernel
theorem dX5_plays_290 : decode cX5_plays 290 = .ok (.iaload, 1) := by decide +kernel
theorem dX5_plays_291 : decode cX5_plays 291 = .ok (.iload 4, 2) := by decide +kernel
theorem dX5_plays_293 : decode cX5_plays 293 = .ok (.iload_n 1, 1) := by decide +kernel
theorem dX5_plays_294 : decode cX5_plays 294 = .ok (.if_icmp .ne 7, 3) := by decide +kernel
theorem dX5_plays_297 : decode cX5_plays 297 = .ok (.iconst 1, 1) := by decide +kernel
theorem dX5_plays_298 : decode cX5_plays 298 = .ok (.goto 4, 3) := by decide +kernel
theorem dX5_plays_301 : decode cX5_plays 301 = .ok (.iconst 0, 1) := by decide +kernel
theorem dX5_plays_302 : decode cX5_plays 302 = .ok (.iadd, 1) := by decide +kernel
theorem dX5_plays_303 : decode cX5_plays 303 = .ok (.aload_n 0, 1) := by decide +kernel
theorem dX5_plays_304 : decode cX5_plays 304 = .ok (.getfield 13, 3) := by decide +kernel
theorem dX5_plays_307 : decode cX5_plays 307 = .ok (.iload 4, 2) := by decide +kernel
theorem dX5_plays_309 : decode cX5_plays 309 = .ok (.iaload, 1) := by decide +kernel
theorem dX5_plays_310 : decode cX5_plays 310 = .ok (.iload_n 2, 1) := by decide +kernel
theorem dX5_plays_311 : decode cX5_plays 311 = .ok (.invokevirtual 115, 3) := by decide +kernel
theorem dX5_plays_314 : decode cX5_plays 314 = .ok (.iinc 4 1, 3) := by decide +kernel
theorem dX5_plays_317 : decode cX5_plays 317 = .ok (.goto (-45), 3) := by decide +kernel
theorem dX5_plays_320 : decode cX5_plays 320 = .ok (.goto (-257), 3) := by decide +kernel
theorem dX5_played_0 : decode cX5_played 0 = .ok (.aload_n 0, 1) := by decide +kernel
theorem dX5_played_1 : decode cX5_played 1 = .ok (.iconst 0, 1) := by decide +kernel
theorem dX5_played_2 : decode cX5_played 2 = .ok (.putfield 59, 3) := by decide +kernel
theorem dX5_played_5 : decode cX5_played 5 = .ok (.aload_n 0, 1) := by decide +kernel
theorem dX5_played_6 : decode cX5_played 6 = .ok (.aload_n 0, 1) := by decide +kernel
theorem dX5_played_7 : decode cX5_played 7 = .ok (.iload_n 1, 1) := by decide +kernel
theorem dX5_played_8 : decode cX5_played 8 = .ok (.iload_n 2, 1) := by decide +kernel
theorem dX5_played_9 : decode cX5_played 9 = .ok (.invokevirtual 88, 3) := by decide +kernel
theorem dX5_played_12 : decode cX5_played 12 = .ok (.iconst 1, 1) := by decide +kernel
theorem dX5_played_13 : decode cX5_played 13 = .ok (.invokevirtual 80, 3) := by decide +kernel
theorem dX5_played_16 : decode cX5_played 16 = .ok (.ifCond .ne 25, 3) := by decide +kernel
theorem dX5_played_19 : decode cX5_played 19 = .ok (.aload_n 0, 1) := by decide +kernel
theorem dX5_played_20 : decode cX5_played 20 = .ok (.iload_n 3, 1) := by decide +kernel
theorem dX5_played_21 : decode cX5_played 21 = .ok (.iconst 0, 1) := by decide +kernel
theorem dX5_played_22 : decode cX5_played 22 = .ok (.iconst 2, 1) := by decide +kernel
theorem dX5_played_23 : decode cX5_played 23 = .ok (.invokestatic 66, 3) := by decide +kernel
theorem dX5_played_26 : decode cX5_played 26 = .ok (.ifCond .ne 7, 3) := by decide +kernel
theorem dX5_played_29 : decode cX5_played 29 = .ok (.iconst 1, 1) := by decide +kernel
theorem dX5_played_30 : decode cX5_played 30 = .ok (.goto 4, 3) := by decide +kernel
theorem dX5_played_33 : decode cX5_played 33 = .ok (.iconst 0, 1) := by decide +kernel
theorem dX5_played_34 : decode cX5_played 34 = .ok (.iconst 2, 1) := by decide +kernel
theorem dX5_played_35 : decode cX5_played 35 = .ok (.invokevirtual 80, 3) := by decide +kernel
theorem dX5_played_38 : decode cX5_played 38 = .ok (.ifCond .eq 5, 3) := by decide +kernel
theorem dX5_played_41 : decode cX5_played 41 = .ok (.iconst 0, 1) := by decide +kernel
theorem dX5_played_42 : decode cX5_played 42 = .ok (.ireturn, 1) := by decide +kernel
theorem dX5_played_43 : decode cX5_played 43 = .ok (.aload_n 0, 1) := by decide +kernel
theorem dX5_played_44 : decode cX5_played 44 = .ok (.iconst (-1), 1) := by decide +kernel
theorem dX5_played_45 : decode cX5_played 45 = .ok (.invokevirtual 119, 3) := by decide +kernel
theorem dX5_played_48 : decode cX5_played 48 = .ok (.istore 4, 2) := by decide +kernel
theorem dX5_played_50 : decode cX5_played 50 = .ok (.iconst 5, 1) := by decide +kernel
theorem dX5_played_51 : decode cX5_played 51 = .ok (.iload_n 1, 1) := by decide +kernel
theorem dX5_played_52 : decode cX5_played 52 = .ok (.imul, 1) := by decide +kernel
theorem dX5_played_53 : decode cX5_played 53 = .ok (.iload_n 2, 1) := by decide +kernel
theorem dX5_played_54 : decode cX5_played 54 = .ok (.iadd, 1) := by decide +kernel
theorem dX5_played_55 : decode cX5_played 55 = .ok (.istore 5, 2) := by decide +kernel
theorem dX5_played_57 : decode cX5_played 57 = .ok (.iload_n 3, 1) := by decide +kernel
theorem dX5_played_58 : decode cX5_played 58 = .ok (.ifCond .ne 13, 3) := by decide +kernel
theorem dX5_played_61 : decode cX5_played 61 = .ok (.aload_n 0, 1) := by decide +kernel
theorem dX5_played_62 : decode cX5_played 62 = .ok (.getfield 44, 3) := by decide +kernel
theorem dX5_played_65 : decode cX5_played 65 = .ok (.iload 5, 2) := by decide +kernel
theorem dX5_played_67 : decode cX5_played 67 = .ok (.iaload, 1) := by decide +kernel
theorem dX5_played_68 : decode cX5_played 68 = .ok (.goto 25, 3) := by decide +kernel
theorem dX5_played_71 : decode cX5_played 71 = .ok (.iload_n 3, 1) := by decide +kernel
theorem dX5_played_72 : decode cX5_played 72 = .ok (.iconst 1, 1) := by decide +kernel
theorem dX5_played_73 : decode cX5_played 73 = .ok (.if_icmp .ne 13, 3) := by decide +kernel
theorem dX5_played_76 : decode cX5_played 76 = .ok (.aload_n 0, 1) := by decide +kernel
theorem dX5_played_77 : decode cX5_played 77 = .ok (.getfield 47, 3) := by decide +kernel
theorem dX5_played_80 : decode cX5_played 80 = .ok (.iload 5, 2) := by decide +kernel
theorem dX5_played_82 : decode cX5_played 82 = .ok (.iaload, 1) := by decide +kernel
theorem dX5_played_83 : decode cX5_played 83 = .ok (.goto 10, 3) := by decide +kernel
theorem dX5_played_86 : decode cX5_played 86 = .ok (.aload_n 0, 1) := by decide +kernel
theorem dX5_played_87 : decode cX5_played 87 = .ok (.getfield 50, 3) := by decide +kernel
theorem dX5_played_90 : decode cX5_played 90 = .ok (.iload 5, 2) := by decide +kernel
theorem dX5_played_92 : decode cX5_played 92 = .ok (.iaload, 1) := by decide +kernel
theorem dX5_played_93 : decode cX5_played 93 = .ok (.ireturn, 1) := by decide +kernel
theorem dX5_stepsOfAll_0 : decode cX5_stepsOfAll 0 = .ok (.iconst 0, 1) := by decide +kernel
theorem dX5_stepsOfAll_1 : decode cX5_stepsOfAll 1 = .ok (.istore_n 1, 1) := by decide +kernel
theorem dX5_stepsOfAll_2 : decode cX5_stepsOfAll 2 = .ok (.iconst 0, 1) := by decide +kernel
theorem dX5_stepsOfAll_3 : decode cX5_stepsOfAll 3 = .ok (.istore_n 2, 1) := by decide +kernel
theorem dX5_stepsOfAll_4 : decode cX5_stepsOfAll 4 = .ok (.iload_n 2, 1) := by decide +kernel
theorem dX5_stepsOfAll_5 : decode cX5_stepsOfAll 5 = .ok (.aload_n 0, 1) := by decide +kernel
theorem dX5_stepsOfAll_6 : decode cX5_stepsOfAll 6 = .ok (.getfield 70, 3) := by decide +kernel
theorem dX5_stepsOfAll_9 : decode cX5_stepsOfAll 9 = .ok (.if_icmp .ge 18, 3) := by decide +kernel
theorem dX5_stepsOfAll_12 : decode cX5_stepsOfAll 12 = .ok (.iload_n 1, 1) := by decide +kernel
theorem dX5_stepsOfAll_13 : decode cX5_stepsOfAll 13 = .ok (.aload_n 0, 1) := by decide +kernel
theorem dX5_stepsOfAll_14 : decode cX5_stepsOfAll 14 = .ok (.getfield 25, 3) := by decide +kernel
theorem dX5_stepsOfAll_17 : decode cX5_stepsOfAll 17 = .ok (.iload_n 2, 1) := by decide +kernel
theorem dX5_stepsOfAll_18 : decode cX5_stepsOfAll 18 = .ok (.iaload, 1) := by decide +kernel
theorem dX5_stepsOfAll_19 : decode cX5_stepsOfAll 19 = .ok (.iadd, 1) := by decide +kernel
theorem dX5_stepsOfAll_20 : decode cX5_stepsOfAll 20 = .ok (.istore_n 1, 1) := by decide +kernel
theorem dX5_stepsOfAll_21 : decode cX5_stepsOfAll 21 = .ok (.iinc 2 1, 3) := by decide +kernel
theorem dX5_stepsOfAll_24 : decode cX5_stepsOfAll 24 = .ok (.goto (-20), 3) := by decide +kernel
theorem dX5_stepsOfAll_27 : decode cX5_stepsOfAll 27 = .ok (.iload_n 1, 1) := by decide +kernel
theorem dX5_stepsOfAll_28 : decode cX5_stepsOfAll 28 = .ok (.ireturn, 1) := by decide +kernel
theorem dX5_isStep_0 : decode cX5_isStep 0 = .ok (.iload_n 1, 1) := by decide +kernel
theorem dX5_isStep_1 : decode cX5_isStep 1 = .ok (.iconst 5, 1) := by decide +kernel
theorem dX5_isStep_2 : decode cX5_isStep 2 = .ok (.idiv, 1) := by decide +kernel
theorem dX5_isStep_3 : decode cX5_isStep 3 = .ok (.aload_n 0, 1) := by decide +kernel
theorem dX5_isStep_4 : decode cX5_isStep 4 = .ok (.getfield 70, 3) := by decide +kernel
theorem dX5_isStep_7 : decode cX5_isStep 7 = .ok (.if_icmp .ge 21, 3) := by decide +kernel
theorem dX5_isStep_10 : decode cX5_isStep 10 = .ok (.iload_n 1, 1) := by decide +kernel
theorem dX5_isStep_11 : decode cX5_isStep 11 = .ok (.iconst 5, 1) := by decide +kernel
theorem dX5_isStep_12 : decode cX5_isStep 12 = .ok (.irem, 1) := by decide +kernel
theorem dX5_isStep_13 : decode cX5_isStep 13 = .ok (.aload_n 0, 1) := by decide +kernel
theorem dX5_isStep_14 : decode cX5_isStep 14 = .ok (.getfield 25, 3) := by decide +kernel
theorem dX5_isStep_17 : decode cX5_isStep 17 = .ok (.iload_n 1, 1) := by decide +kernel
theorem dX5_isStep_18 : decode cX5_isStep 18 = .ok (.iconst 5, 1) := by decide +kernel
theorem dX5_isStep_19 : decode cX5_isStep 19 = .ok (.idiv, 1) := by decide +kernel
theorem dX5_isStep_20 : decode cX5_isStep 20 = .ok (.iaload, 1) := by decide +kernel
theorem dX5_isStep_21 : decode cX5_isStep 21 = .ok (.if_icmp .ge 7, 3) := by decide +kernel
theorem dX5_isStep_24 : decode cX5_isStep 24 = .ok (.iconst 1, 1) := by decide +kernel
theorem dX5_isStep_25 : decode cX5_isStep 25 = .ok (.goto 4, 3) := by decide +kernel
theorem dX5_isStep_28 : decode cX5_isStep 28 = .ok (.iconst 0, 1) := by decide +kernel
theorem dX5_isStep_29 : decode cX5_isStep 29 = .ok (.ireturn, 1) := by decide +kernel
theorem dX5_trace_0 : decode cX5_trace 0 = .ok (.aload_n 0, 1) := by decide +kernel
theorem dX5_trace_1 : decode cX5_trace 1 = .ok (.iconst 0, 1) := by decide +kernel
theorem dX5_trace_2 : decode cX5_trace 2 = .ok (.putfield 59, 3) := by decide +kernel
theorem dX5_trace_5 : decode cX5_trace 5 = .ok (.aload_n 0, 1) := by decide +kernel
theorem dX5_trace_6 : decode cX5_trace 6 = .ok (.iconst (-1), 1) := by decide +kernel
theorem dX5_trace_7 : decode cX5_trace 7 = .ok (.invokevirtual 119, 3) := by decide +kernel
theorem dX5_trace_10 : decode cX5_trace 10 = .ok (.istore_n 1, 1) := by decide +kernel
theorem dX5_trace_11 : decode cX5_trace 11 = .ok (.iconst 0, 1) := by decide +kernel
theorem dX5_trace_12 : decode cX5_trace 12 = .ok (.istore_n 2, 1) := by decide +kernel
theorem dX5_trace_13 : decode cX5_trace 13 = .ok (.iload_n 2, 1) := by decide +kernel
theorem dX5_trace_14 : decode cX5_trace 14 = .ok (.sipush 300, 3) := by decide +kernel
theorem dX5_trace_17 : decode cX5_trace 17 = .ok (.if_icmp .ge 51, 3) := by decide +kernel
theorem dX5_trace_20 : decode cX5_trace 20 = .ok (.aload_n 0, 1) := by decide +kernel
theorem dX5_trace_21 : decode cX5_trace 21 = .ok (.iload_n 2, 1) := by decide +kernel
theorem dX5_trace_22 : decode cX5_trace 22 = .ok (.invokevirtual 123, 3) := by decide +kernel
theorem dX5_trace_25 : decode cX5_trace 25 = .ok (.ifCond .ne 6, 3) := by decide +kernel
theorem dX5_trace_28 : decode cX5_trace 28 = .ok (.goto 34, 3) := by decide +kernel
theorem dX5_trace_31 : decode cX5_trace 31 = .ok (.aload_n 0, 1) := by decide +kernel
theorem dX5_trace_32 : decode cX5_trace 32 = .ok (.getfield 34, 3) := by decide +kernel
theorem dX5_trace_35 : decode cX5_trace 35 = .ok (.iload_n 2, 1) := by decide +kernel
theorem dX5_trace_36 : decode cX5_trace 36 = .ok (.iconst 1, 1) := by decide +kernel
theorem dX5_trace_37 : decode cX5_trace 37 = .ok (.bastore, 1) := by decide +kernel
theorem dX5_trace_38 : decode cX5_trace 38 = .ok (.aload_n 0, 1) := by decide +kernel
theorem dX5_trace_39 : decode cX5_trace 39 = .ok (.getfield 38, 3) := by decide +kernel
theorem dX5_trace_42 : decode cX5_trace 42 = .ok (.iload_n 2, 1) := by decide +kernel
theorem dX5_trace_43 : decode cX5_trace 43 = .ok (.aload_n 0, 1) := by decide +kernel
theorem dX5_trace_44 : decode cX5_trace 44 = .ok (.getfield 47, 3) := by decide +kernel
theorem dX5_trace_47 : decode cX5_trace 47 = .ok (.iload_n 2, 1) := by decide +kernel
theorem dX5_trace_48 : decode cX5_trace 48 = .ok (.iaload, 1) := by decide +kernel
theorem dX5_trace_49 : decode cX5_trace 49 = .ok (.iastore, 1) := by decide +kernel
theorem dX5_trace_50 : decode cX5_trace 50 = .ok (.aload_n 0, 1) := by decide +kernel
theorem dX5_trace_51 : decode cX5_trace 51 = .ok (.getfield 41, 3) := by decide +kernel
theorem dX5_trace_54 : decode cX5_trace 54 = .ok (.iload_n 2, 1) := by decide +kernel
theorem dX5_trace_55 : decode cX5_trace 55 = .ok (.aload_n 0, 1) := by decide +kernel
theorem dX5_trace_56 : decode cX5_trace 56 = .ok (.getfield 50, 3) := by decide +kernel
theorem dX5_trace_59 : decode cX5_trace 59 = .ok (.iload_n 2, 1) := by decide +kernel
theorem dX5_trace_60 : decode cX5_trace 60 = .ok (.iaload, 1) := by decide +kernel
theorem dX5_trace_61 : decode cX5_trace 61 = .ok (.iastore, 1) := by decide +kernel
theorem dX5_trace_62 : decode cX5_trace 62 = .ok (.iinc 2 1, 3) := by decide +kernel
theorem dX5_trace_65 : decode cX5_trace 65 = .ok (.goto (-52), 3) := by decide +kernel
theorem dX5_trace_68 : decode cX5_trace 68 = .ok (.aload_n 0, 1) := by decide +kernel
theorem dX5_trace_69 : decode cX5_trace 69 = .ok (.invokevirtual 126, 3) := by decide +kernel
theorem dX5_trace_72 : decode cX5_trace 72 = .ok (.ireturn, 1) := by decide +kernel
theorem dX5_unlike_0 : decode cX5_unlike 0 = .ok (.aload_n 0, 1) := by decide +kernel
theorem dX5_unlike_1 : decode cX5_unlike 1 = .ok (.iconst 0, 1) := by decide +kernel
theorem dX5_unlike_2 : decode cX5_unlike 2 = .ok (.putfield 59, 3) := by decide +kernel
theorem dX5_unlike_5 : decode cX5_unlike 5 = .ok (.aload_n 0, 1) := by decide +kernel
theorem dX5_unlike_6 : decode cX5_unlike 6 = .ok (.iconst (-1), 1) := by decide +kernel
theorem dX5_unlike_7 : decode cX5_unlike 7 = .ok (.invokevirtual 119, 3) := by decide +kernel
theorem dX5_unlike_10 : decode cX5_unlike 10 = .ok (.istore_n 1, 1) := by decide +kernel
theorem dX5_unlike_11 : decode cX5_unlike 11 = .ok (.iconst 0, 1) := by decide +kernel
theorem dX5_unlike_12 : decode cX5_unlike 12 = .ok (.istore_n 2, 1) := by decide +kernel
theorem dX5_unlike_13 : decode cX5_unlike 13 = .ok (.iconst 0, 1) := by decide +kernel
theorem dX5_unlike_14 : decode cX5_unlike 14 = .ok (.istore_n 3, 1) := by decide +kernel
theorem dX5_unlike_15 : decode cX5_unlike 15 = .ok (.iload_n 3, 1) := by decide +kernel
theorem dX5_unlike_16 : decode cX5_unlike 16 = .ok (.sipush 300, 3) := by decide +kernel
theorem dX5_unlike_19 : decode cX5_unlike 19 = .ok (.if_icmp .ge 64, 3) := by decide +kernel
theorem dX5_unlike_22 : decode cX5_unlike 22 = .ok (.iload_n 2, 1) := by decide +kernel
theorem dX5_unlike_23 : decode cX5_unlike 23 = .ok (.aload_n 0, 1) := by decide +kernel
theorem dX5_unlike_24 : decode cX5_unlike 24 = .ok (.iload_n 3, 1) := by decide +kernel
theorem dX5_unlike_25 : decode cX5_unlike 25 = .ok (.invokevirtual 123, 3) := by decide +kernel
theorem dX5_unlike_28 : decode cX5_unlike 28 = .ok (.ifCond .eq 46, 3) := by decide +kernel
theorem dX5_unlike_31 : decode cX5_unlike 31 = .ok (.aload_n 0, 1) := by decide +kernel
theorem dX5_unlike_32 : decode cX5_unlike 32 = .ok (.getfield 34, 3) := by decide +kernel
theorem dX5_unlike_35 : decode cX5_unlike 35 = .ok (.iload_n 3, 1) := by decide +kernel
theorem dX5_unlike_36 : decode cX5_unlike 36 = .ok (.baload, 1) := by decide +kernel
theorem dX5_unlike_37 : decode cX5_unlike 37 = .ok (.ifCond .eq 37, 3) := by decide +kernel
theorem dX5_unlike_40 : decode cX5_unlike 40 = .ok (.aload_n 0, 1) := by decide +kernel
theorem dX5_unlike_41 : decode cX5_unlike 41 = .ok (.getfield 38, 3) := by decide +kernel
theorem dX5_unlike_44 : decode cX5_unlike 44 = .ok (.iload_n 3, 1) := by decide +kernel
theorem dX5_unlike_45 : decode cX5_unlike 45 = .ok (.iaload, 1) := by decide +kernel
theorem dX5_unlike_46 : decode cX5_unlike 46 = .ok (.aload_n 0, 1) := by decide +kernel
theorem dX5_unlike_47 : decode cX5_unlike 47 = .ok (.getfield 47, 3) := by decide +kernel
theorem dX5_unlike_50 : decode cX5_unlike 50 = .ok (.iload_n 3, 1) := by decide +kernel
theorem dX5_unlike_51 : decode cX5_unlike 51 = .ok (.iaload, 1) := by decide +kernel
theorem dX5_unlike_52 : decode cX5_unlike 52 = .ok (.if_icmp .ne 18, 3) := by decide +kernel
theorem dX5_unlike_55 : decode cX5_unlike 55 = .ok (.aload_n 0, 1) := by decide +kernel
theorem dX5_unlike_56 : decode cX5_unlike 56 = .ok (.getfield 41, 3) := by decide +kernel
theorem dX5_unlike_59 : decode cX5_unlike 59 = .ok (.iload_n 3, 1) := by decide +kernel
theorem dX5_unlike_60 : decode cX5_unlike 60 = .ok (.iaload, 1) := by decide +kernel
theorem dX5_unlike_61 : decode cX5_unlike 61 = .ok (.aload_n 0, 1) := by decide +kernel
theorem dX5_unlike_62 : decode cX5_unlike 62 = .ok (.getfield 50, 3) := by decide +kernel
theorem dX5_unlike_65 : decode cX5_unlike 65 = .ok (.iload_n 3, 1) := by decide +kernel
theorem dX5_unlike_66 : decode cX5_unlike 66 = .ok (.iaload, 1) := by decide +kernel
theorem dX5_unlike_67 : decode cX5_unlike 67 = .ok (.if_icmp .eq 7, 3) := by decide +kernel
theorem dX5_unlike_70 : decode cX5_unlike 70 = .ok (.iconst 1, 1) := by decide +kernel
theorem dX5_unlike_71 : decode cX5_unlike 71 = .ok (.goto 4, 3) := by decide +kernel
theorem dX5_unlike_74 : decode cX5_unlike 74 = .ok (.iconst 0, 1) := by decide +kernel
theorem dX5_unlike_75 : decode cX5_unlike 75 = .ok (.iadd, 1) := by decide +kernel
theorem dX5_unlike_76 : decode cX5_unlike 76 = .ok (.istore_n 2, 1) := by decide +kernel
theorem dX5_unlike_77 : decode cX5_unlike 77 = .ok (.iinc 3 1, 3) := by decide +kernel
theorem dX5_unlike_80 : decode cX5_unlike 80 = .ok (.goto (-65), 3) := by decide +kernel
theorem dX5_unlike_83 : decode cX5_unlike 83 = .ok (.iload_n 2, 1) := by decide +kernel
theorem dX5_unlike_84 : decode cX5_unlike 84 = .ok (.ireturn, 1) := by decide +kernel
theorem dX5_seenCame_0 : decode cX5_seenCame 0 = .ok (.iload_n 1, 1) := by decide +kernel
theorem dX5_seenCame_1 : decode cX5_seenCame 1 = .ok (.iconst 5, 1) := by decide +kernel
theorem dX5_seenCame_2 : decode cX5_seenCame 2 = .ok (.irem, 1) := by decide +kernel
theorem dX5_seenCame_3 : decode cX5_seenCame 3 = .ok (.ifCond .ne 14, 3) := by decide +kernel
theorem dX5_seenCame_6 : decode cX5_seenCame 6 = .ok (.aload_n 0, 1) := by decide +kernel
theorem dX5_seenCame_7 : decode cX5_seenCame 7 = .ok (.getfield 22, 3) := by decide +kernel
theorem dX5_seenCame_10 : decode cX5_seenCame 10 = .ok (.iload_n 1, 1) := by decide +kernel
theorem dX5_seenCame_11 : decode cX5_seenCame 11 = .ok (.iconst 5, 1) := by decide +kernel
theorem dX5_seenCame_12 : decode cX5_seenCame 12 = .ok (.idiv, 1) := by decide +kernel
theorem dX5_seenCame_13 : decode cX5_seenCame 13 = .ok (.iaload, 1) := by decide +kernel
theorem dX5_seenCame_14 : decode cX5_seenCame 14 = .ok (.goto 40, 3) := by decide +kernel
theorem dX5_seenCame_17 : decode cX5_seenCame 17 = .ok (.aload_n 0, 1) := by decide +kernel
theorem dX5_seenCame_18 : decode cX5_seenCame 18 = .ok (.getfield 34, 3) := by decide +kernel
theorem dX5_seenCame_21 : decode cX5_seenCame 21 = .ok (.iload_n 1, 1) := by decide +kernel
theorem dX5_seenCame_22 : decode cX5_seenCame 22 = .ok (.iconst 1, 1) := by decide +kernel
theorem dX5_seenCame_23 : decode cX5_seenCame 23 = .ok (.isub, 1) := by decide +kernel
theorem dX5_seenCame_24 : decode cX5_seenCame 24 = .ok (.baload, 1) := by decide +kernel
theorem dX5_seenCame_25 : decode cX5_seenCame 25 = .ok (.ifCond .eq 28, 3) := by decide +kernel
theorem dX5_seenCame_28 : decode cX5_seenCame 28 = .ok (.aload_n 0, 1) := by decide +kernel
theorem dX5_seenCame_29 : decode cX5_seenCame 29 = .ok (.getfield 41, 3) := by decide +kernel
theorem dX5_seenCame_32 : decode cX5_seenCame 32 = .ok (.iload_n 1, 1) := by decide +kernel
theorem dX5_seenCame_33 : decode cX5_seenCame 33 = .ok (.iconst 1, 1) := by decide +kernel
theorem dX5_seenCame_34 : decode cX5_seenCame 34 = .ok (.isub, 1) := by decide +kernel
theorem dX5_seenCame_35 : decode cX5_seenCame 35 = .ok (.iaload, 1) := by decide +kernel
theorem dX5_seenCame_36 : decode cX5_seenCame 36 = .ok (.aload_n 0, 1) := by decide +kernel
theorem dX5_seenCame_37 : decode cX5_seenCame 37 = .ok (.getfield 16, 3) := by decide +kernel
theorem dX5_seenCame_40 : decode cX5_seenCame 40 = .ok (.aload_n 0, 1) := by decide +kernel
theorem dX5_seenCame_41 : decode cX5_seenCame 41 = .ok (.getfield 28, 3) := by decide +kernel
theorem dX5_seenCame_44 : decode cX5_seenCame 44 = .ok (.iload_n 1, 1) := by decide +kernel
theorem dX5_seenCame_45 : decode cX5_seenCame 45 = .ok (.iconst 1, 1) := by decide +kernel
theorem dX5_seenCame_46 : decode cX5_seenCame 46 = .ok (.isub, 1) := by decide +kernel
theorem dX5_seenCame_47 : decode cX5_seenCame 47 = .ok (.iaload, 1) := by decide +kernel
theorem dX5_seenCame_48 : decode cX5_seenCame 48 = .ok (.iaload, 1) := by decide +kernel
theorem dX5_seenCame_49 : decode cX5_seenCame 49 = .ok (.iadd, 1) := by decide +kernel
theorem dX5_seenCame_50 : decode cX5_seenCame 50 = .ok (.goto 4, 3) := by decide +kernel
theorem dX5_seenCame_53 : decode cX5_seenCame 53 = .ok (.iconst (-1), 1) := by decide +kernel
theorem dX5_seenCame_54 : decode cX5_seenCame 54 = .ok (.ireturn, 1) := by decide +kernel
theorem dX5_isWhole_0 : decode cX5_isWhole 0 = .ok (.iconst 1, 1) := by decide +kernel
theorem dX5_isWhole_1 : decode cX5_isWhole 1 = .ok (.istore_n 2, 1) := by decide +kernel
theorem dX5_isWhole_2 : decode cX5_isWhole 2 = .ok (.iconst 0, 1) := by decide +kernel
theorem dX5_isWhole_3 : decode cX5_isWhole 3 = .ok (.istore_n 3, 1) := by decide +kernel
theorem dX5_isWhole_4 : decode cX5_isWhole 4 = .ok (.iconst 0, 1) := by decide +kernel
theorem dX5_isWhole_5 : decode cX5_isWhole 5 = .ok (.istore 4, 2) := by decide +kernel
theorem dX5_isWhole_7 : decode cX5_isWhole 7 = .ok (.iload 4, 2) := by decide +kernel
theorem dX5_isWhole_9 : decode cX5_isWhole 9 = .ok (.sipush 300, 3) := by decide +kernel
theorem dX5_isWhole_12 : decode cX5_isWhole 12 = .ok (.if_icmp .ge 63, 3) := by decide +kernel
theorem dX5_isWhole_15 : decode cX5_isWhole 15 = .ok (.aload_n 0, 1) := by decide +kernel
theorem dX5_isWhole_16 : decode cX5_isWhole 16 = .ok (.iload 4, 2) := by decide +kernel
theorem dX5_isWhole_18 : decode cX5_isWhole 18 = .ok (.invokevirtual 123, 3) := by decide +kernel
theorem dX5_isWhole_21 : decode cX5_isWhole 21 = .ok (.ifCond .eq 48, 3) := by decide +kernel
theorem dX5_isWhole_24 : decode cX5_isWhole 24 = .ok (.aload_n 0, 1) := by decide +kernel
theorem dX5_isWhole_25 : decode cX5_isWhole 25 = .ok (.getfield 28, 3) := by decide +kernel
theorem dX5_isWhole_28 : decode cX5_isWhole 28 = .ok (.iload 4, 2) := by decide +kernel
theorem dX5_isWhole_30 : decode cX5_isWhole 30 = .ok (.iaload, 1) := by decide +kernel
theorem dX5_isWhole_31 : decode cX5_isWhole 31 = .ok (.iload_n 1, 1) := by decide +kernel
theorem dX5_isWhole_32 : decode cX5_isWhole 32 = .ok (.if_icmp .eq 6, 3) := by decide +kernel
theorem dX5_isWhole_35 : decode cX5_isWhole 35 = .ok (.goto 34, 3) := by decide +kernel
theorem dX5_isWhole_38 : decode cX5_isWhole 38 = .ok (.iconst 1, 1) := by decide +kernel
theorem dX5_isWhole_39 : decode cX5_isWhole 39 = .ok (.istore_n 3, 1) := by decide +kernel
theorem dX5_isWhole_40 : decode cX5_isWhole 40 = .ok (.iload_n 2, 1) := by decide +kernel
theorem dX5_isWhole_41 : decode cX5_isWhole 41 = .ok (.ifCond .eq 26, 3) := by decide +kernel
theorem dX5_isWhole_44 : decode cX5_isWhole 44 = .ok (.aload_n 0, 1) := by decide +kernel
theorem dX5_isWhole_45 : decode cX5_isWhole 45 = .ok (.getfield 34, 3) := by decide +kernel
theorem dX5_isWhole_48 : decode cX5_isWhole 48 = .ok (.iload 4, 2) := by decide +kernel
theorem dX5_isWhole_50 : decode cX5_isWhole 50 = .ok (.baload, 1) := by decide +kernel
theorem dX5_isWhole_51 : decode cX5_isWhole 51 = .ok (.ifCond .eq 16, 3) := by decide +kernel
theorem dX5_isWhole_54 : decode cX5_isWhole 54 = .ok (.aload_n 0, 1) := by decide +kernel
theorem dX5_isWhole_55 : decode cX5_isWhole 55 = .ok (.iload 4, 2) := by decide +kernel
theorem dX5_isWhole_57 : decode cX5_isWhole 57 = .ok (.invokevirtual 130, 3) := by decide +kernel
theorem dX5_isWhole_60 : decode cX5_isWhole 60 = .ok (.ifCond .lt 7, 3) := by decide +kernel
theorem dX5_isWhole_63 : decode cX5_isWhole 63 = .ok (.iconst 1, 1) := by decide +kernel
theorem dX5_isWhole_64 : decode cX5_isWhole 64 = .ok (.goto 4, 3) := by decide +kernel
theorem dX5_isWhole_67 : decode cX5_isWhole 67 = .ok (.iconst 0, 1) := by decide +kernel
theorem dX5_isWhole_68 : decode cX5_isWhole 68 = .ok (.istore_n 2, 1) := by decide +kernel
theorem dX5_isWhole_69 : decode cX5_isWhole 69 = .ok (.iinc 4 1, 3) := by decide +kernel
theorem dX5_isWhole_72 : decode cX5_isWhole 72 = .ok (.goto (-65), 3) := by decide +kernel
theorem dX5_isWhole_75 : decode cX5_isWhole 75 = .ok (.iload_n 2, 1) := by decide +kernel
theorem dX5_isWhole_76 : decode cX5_isWhole 76 = .ok (.ifCond .eq 11, 3) := by decide +kernel
theorem dX5_isWhole_79 : decode cX5_isWhole 79 = .ok (.iload_n 3, 1) := by decide +kernel
theorem dX5_isWhole_80 : decode cX5_isWhole 80 = .ok (.ifCond .eq 7, 3) := by decide +kernel
theorem dX5_isWhole_83 : decode cX5_isWhole 83 = .ok (.iconst 1, 1) := by decide +kernel
theorem dX5_isWhole_84 : decode cX5_isWhole 84 = .ok (.goto 4, 3) := by decide +kernel
theorem dX5_isWhole_87 : decode cX5_isWhole 87 = .ok (.iconst 0, 1) := by decide +kernel
theorem dX5_isWhole_88 : decode cX5_isWhole 88 = .ok (.ireturn, 1) := by decide +kernel
theorem dX5_agrees_0 : decode cX5_agrees 0 = .ok (.aload_n 0, 1) := by decide +kernel
theorem dX5_agrees_1 : decode cX5_agrees 1 = .ok (.invokevirtual 104, 3) := by decide +kernel
theorem dX5_agrees_4 : decode cX5_agrees 4 = .ok (.iconst 0, 1) := by decide +kernel
theorem dX5_agrees_5 : decode cX5_agrees 5 = .ok (.istore 4, 2) := by decide +kernel
theorem dX5_agrees_7 : decode cX5_agrees 7 = .ok (.iload 4, 2) := by decide +kernel
theorem dX5_agrees_9 : decode cX5_agrees 9 = .ok (.sipush 300, 3) := by decide +kernel
theorem dX5_agrees_12 : decode cX5_agrees 12 = .ok (.if_icmp .ge 67, 3) := by decide +kernel
theorem dX5_agrees_15 : decode cX5_agrees 15 = .ok (.aload_n 0, 1) := by decide +kernel
theorem dX5_agrees_16 : decode cX5_agrees 16 = .ok (.iload 4, 2) := by decide +kernel
theorem dX5_agrees_18 : decode cX5_agrees 18 = .ok (.invokevirtual 123, 3) := by decide +kernel
theorem dX5_agrees_21 : decode cX5_agrees 21 = .ok (.ifCond .eq 52, 3) := by decide +kernel
theorem dX5_agrees_24 : decode cX5_agrees 24 = .ok (.aload_n 0, 1) := by decide +kernel
theorem dX5_agrees_25 : decode cX5_agrees 25 = .ok (.getfield 28, 3) := by decide +kernel
theorem dX5_agrees_28 : decode cX5_agrees 28 = .ok (.iload 4, 2) := by decide +kernel
theorem dX5_agrees_30 : decode cX5_agrees 30 = .ok (.iaload, 1) := by decide +kernel
theorem dX5_agrees_31 : decode cX5_agrees 31 = .ok (.iload_n 1, 1) := by decide +kernel
theorem dX5_agrees_32 : decode cX5_agrees 32 = .ok (.if_icmp .eq 6, 3) := by decide +kernel
theorem dX5_agrees_35 : decode cX5_agrees 35 = .ok (.goto 38, 3) := by decide +kernel
theorem dX5_agrees_38 : decode cX5_agrees 38 = .ok (.aload_n 0, 1) := by decide +kernel
theorem dX5_agrees_39 : decode cX5_agrees 39 = .ok (.getfield 44, 3) := by decide +kernel
theorem dX5_agrees_42 : decode cX5_agrees 42 = .ok (.iload 4, 2) := by decide +kernel
theorem dX5_agrees_44 : decode cX5_agrees 44 = .ok (.aload_n 0, 1) := by decide +kernel
theorem dX5_agrees_45 : decode cX5_agrees 45 = .ok (.iload 4, 2) := by decide +kernel
theorem dX5_agrees_47 : decode cX5_agrees 47 = .ok (.invokevirtual 130, 3) := by decide +kernel
theorem dX5_agrees_50 : decode cX5_agrees 50 = .ok (.iastore, 1) := by decide +kernel
theorem dX5_agrees_51 : decode cX5_agrees 51 = .ok (.aload_n 0, 1) := by decide +kernel
theorem dX5_agrees_52 : decode cX5_agrees 52 = .ok (.getfield 56, 3) := by decide +kernel
theorem dX5_agrees_55 : decode cX5_agrees 55 = .ok (.iload 4, 2) := by decide +kernel
theorem dX5_agrees_57 : decode cX5_agrees 57 = .ok (.aload_n 0, 1) := by decide +kernel
theorem dX5_agrees_58 : decode cX5_agrees 58 = .ok (.getfield 41, 3) := by decide +kernel
theorem dX5_agrees_61 : decode cX5_agrees 61 = .ok (.iload 4, 2) := by decide +kernel
theorem dX5_agrees_63 : decode cX5_agrees 63 = .ok (.iaload, 1) := by decide +kernel
theorem dX5_agrees_64 : decode cX5_agrees 64 = .ok (.aload_n 0, 1) := by decide +kernel
theorem dX5_agrees_65 : decode cX5_agrees 65 = .ok (.getfield 38, 3) := by decide +kernel
theorem dX5_agrees_68 : decode cX5_agrees 68 = .ok (.iload 4, 2) := by decide +kernel
theorem dX5_agrees_70 : decode cX5_agrees 70 = .ok (.iaload, 1) := by decide +kernel
theorem dX5_agrees_71 : decode cX5_agrees 71 = .ok (.isub, 1) := by decide +kernel
theorem dX5_agrees_72 : decode cX5_agrees 72 = .ok (.iastore, 1) := by decide +kernel
theorem dX5_agrees_73 : decode cX5_agrees 73 = .ok (.iinc 4 1, 3) := by decide +kernel
theorem dX5_agrees_76 : decode cX5_agrees 76 = .ok (.goto (-69), 3) := by decide +kernel
theorem dX5_agrees_79 : decode cX5_agrees 79 = .ok (.iconst (-1), 1) := by decide +kernel
theorem dX5_agrees_80 : decode cX5_agrees 80 = .ok (.istore 4, 2) := by decide +kernel
theorem dX5_agrees_82 : decode cX5_agrees 82 = .ok (.ldc 96, 2) := by decide +kernel
theorem dX5_agrees_84 : decode cX5_agrees 84 = .ok (.istore 5, 2) := by decide +kernel
theorem dX5_agrees_86 : decode cX5_agrees 86 = .ok (.iconst 0, 1) := by decide +kernel
theorem dX5_agrees_87 : decode cX5_agrees 87 = .ok (.istore 6, 2) := by decide +kernel
theorem dX5_agrees_89 : decode cX5_agrees 89 = .ok (.iload 6, 2) := by decide +kernel
theorem dX5_agrees_91 : decode cX5_agrees 91 = .ok (.iconst 5, 1) := by decide +kernel
theorem dX5_agrees_92 : decode cX5_agrees 92 = .ok (.aload_n 0, 1) := by decide +kernel
theorem dX5_agrees_93 : decode cX5_agrees 93 = .ok (.getfield 70, 3) := by decide +kernel
theorem dX5_agrees_96 : decode cX5_agrees 96 = .ok (.imul, 1) := by decide +kernel
theorem dX5_agrees_97 : decode cX5_agrees 97 = .ok (.if_icmp .ge 61, 3) := by decide +kernel
theorem dX5_agrees_100 : decode cX5_agrees 100 = .ok (.aload_n 0, 1) := by decide +kernel
theorem dX5_agrees_101 : decode cX5_agrees 101 = .ok (.getfield 44, 3) := by decide +kernel
theorem dX5_agrees_104 : decode cX5_agrees 104 = .ok (.iload 6, 2) := by decide +kernel
theorem dX5_agrees_106 : decode cX5_agrees 106 = .ok (.iaload, 1) := by decide +kernel
theorem dX5_agrees_107 : decode cX5_agrees 107 = .ok (.iload 4, 2) := by decide +kernel
theorem dX5_agrees_109 : decode cX5_agrees 109 = .ok (.if_icmp .le 17, 3) := by decide +kernel
theorem dX5_agrees_112 : decode cX5_agrees 112 = .ok (.iload 5, 2) := by decide +kernel
theorem dX5_agrees_114 : decode cX5_agrees 114 = .ok (.aload_n 0, 1) := by decide +kernel
theorem dX5_agrees_115 : decode cX5_agrees 115 = .ok (.getfield 44, 3) := by decide +kernel
theorem dX5_agrees_118 : decode cX5_agrees 118 = .ok (.iload 6, 2) := by decide +kernel
theorem dX5_agrees_120 : decode cX5_agrees 120 = .ok (.iaload, 1) := by decide +kernel
theorem dX5_agrees_121 : decode cX5_agrees 121 = .ok (.invokestatic 107, 3) := by decide +kernel
theorem dX5_agrees_124 : decode cX5_agrees 124 = .ok (.istore 5, 2) := by decide +kernel
theorem dX5_agrees_126 : decode cX5_agrees 126 = .ok (.aload_n 0, 1) := by decide +kernel
theorem dX5_agrees_127 : decode cX5_agrees 127 = .ok (.getfield 50, 3) := by decide +kernel
theorem dX5_agrees_130 : decode cX5_agrees 130 = .ok (.iload 6, 2) := by decide +kernel
theorem dX5_agrees_132 : decode cX5_agrees 132 = .ok (.iaload, 1) := by decide +kernel
theorem dX5_agrees_133 : decode cX5_agrees 133 = .ok (.iload 4, 2) := by decide +kernel
theorem dX5_agrees_135 : decode cX5_agrees 135 = .ok (.if_icmp .le 17, 3) := by decide +kernel
theorem dX5_agrees_138 : decode cX5_agrees 138 = .ok (.iload 5, 2) := by decide +kernel
theorem dX5_agrees_140 : decode cX5_agrees 140 = .ok (.aload_n 0, 1) := by decide +kernel
theorem dX5_agrees_141 : decode cX5_agrees 141 = .ok (.getfield 50, 3) := by decide +kernel
theorem dX5_agrees_144 : decode cX5_agrees 144 = .ok (.iload 6, 2) := by decide +kernel
theorem dX5_agrees_146 : decode cX5_agrees 146 = .ok (.iaload, 1) := by decide +kernel
theorem dX5_agrees_147 : decode cX5_agrees 147 = .ok (.invokestatic 107, 3) := by decide +kernel
theorem dX5_agrees_150 : decode cX5_agrees 150 = .ok (.istore 5, 2) := by decide +kernel
theorem dX5_agrees_152 : decode cX5_agrees 152 = .ok (.iinc 6 1, 3) := by decide +kernel
theorem dX5_agrees_155 : decode cX5_agrees 155 = .ok (.goto (-66), 3) := by decide +kernel
theorem dX5_agrees_158 : decode cX5_agrees 158 = .ok (.iload 5, 2) := by decide +kernel
theorem dX5_agrees_160 : decode cX5_agrees 160 = .ok (.ldc 96, 2) := by decide +kernel
theorem dX5_agrees_162 : decode cX5_agrees 162 = .ok (.if_icmp .ne 5, 3) := by decide +kernel
theorem dX5_agrees_165 : decode cX5_agrees 165 = .ok (.iconst 1, 1) := by decide +kernel
theorem dX5_agrees_166 : decode cX5_agrees 166 = .ok (.ireturn, 1) := by decide +kernel
theorem dX5_agrees_167 : decode cX5_agrees 167 = .ok (.iload 5, 2) := by decide +kernel
theorem dX5_agrees_169 : decode cX5_agrees 169 = .ok (.istore 4, 2) := by decide +kernel
theorem dX5_agrees_171 : decode cX5_agrees 171 = .ok (.iconst 0, 1) := by decide +kernel
theorem dX5_agrees_172 : decode cX5_agrees 172 = .ok (.istore 6, 2) := by decide +kernel
theorem dX5_agrees_174 : decode cX5_agrees 174 = .ok (.iload 6, 2) := by decide +kernel
theorem dX5_agrees_176 : decode cX5_agrees 176 = .ok (.iconst 5, 1) := by decide +kernel
theorem dX5_agrees_177 : decode cX5_agrees 177 = .ok (.aload_n 0, 1) := by decide +kernel
theorem dX5_agrees_178 : decode cX5_agrees 178 = .ok (.getfield 70, 3) := by decide +kernel
theorem dX5_agrees_181 : decode cX5_agrees 181 = .ok (.imul, 1) := by decide +kernel
theorem dX5_agrees_182 : decode cX5_agrees 182 = .ok (.if_icmp .ge 29, 3) := by decide +kernel
theorem dX5_agrees_185 : decode cX5_agrees 185 = .ok (.aload_n 0, 1) := by decide +kernel
theorem dX5_agrees_186 : decode cX5_agrees 186 = .ok (.getfield 44, 3) := by decide +kernel
theorem dX5_agrees_189 : decode cX5_agrees 189 = .ok (.iload 6, 2) := by decide +kernel
theorem dX5_agrees_191 : decode cX5_agrees 191 = .ok (.iaload, 1) := by decide +kernel
theorem dX5_agrees_192 : decode cX5_agrees 192 = .ok (.iload 4, 2) := by decide +kernel
theorem dX5_agrees_194 : decode cX5_agrees 194 = .ok (.if_icmp .ne 11, 3) := by decide +kernel
theorem dX5_agrees_197 : decode cX5_agrees 197 = .ok (.aload_n 0, 1) := by decide +kernel
theorem dX5_agrees_198 : decode cX5_agrees 198 = .ok (.getfield 53, 3) := by decide +kernel
theorem dX5_agrees_201 : decode cX5_agrees 201 = .ok (.iload 6, 2) := by decide +kernel
theorem dX5_agrees_203 : decode cX5_agrees 203 = .ok (.iconst 1, 1) := by decide +kernel
theorem dX5_agrees_204 : decode cX5_agrees 204 = .ok (.bastore, 1) := by decide +kernel
theorem dX5_agrees_205 : decode cX5_agrees 205 = .ok (.iinc 6 1, 3) := by decide +kernel
theorem dX5_agrees_208 : decode cX5_agrees 208 = .ok (.goto (-34), 3) := by decide +kernel
theorem dX5_agrees_211 : decode cX5_agrees 211 = .ok (.aload_n 0, 1) := by decide +kernel
theorem dX5_agrees_212 : decode cX5_agrees 212 = .ok (.iload_n 1, 1) := by decide +kernel
theorem dX5_agrees_213 : decode cX5_agrees 213 = .ok (.iload_n 2, 1) := by decide +kernel
theorem dX5_agrees_214 : decode cX5_agrees 214 = .ok (.iload_n 3, 1) := by decide +kernel
theorem dX5_agrees_215 : decode cX5_agrees 215 = .ok (.iload 4, 2) := by decide +kernel
theorem dX5_agrees_217 : decode cX5_agrees 217 = .ok (.invokevirtual 115, 3) := by decide +kernel
theorem dX5_agrees_220 : decode cX5_agrees 220 = .ok (.iconst 0, 1) := by decide +kernel
theorem dX5_agrees_221 : decode cX5_agrees 221 = .ok (.istore 6, 2) := by decide +kernel
theorem dX5_agrees_223 : decode cX5_agrees 223 = .ok (.iload 6, 2) := by decide +kernel
theorem dX5_agrees_225 : decode cX5_agrees 225 = .ok (.iconst 5, 1) := by decide +kernel
theorem dX5_agrees_226 : decode cX5_agrees 226 = .ok (.aload_n 0, 1) := by decide +kernel
theorem dX5_agrees_227 : decode cX5_agrees 227 = .ok (.getfield 70, 3) := by decide +kernel
theorem dX5_agrees_230 : decode cX5_agrees 230 = .ok (.imul, 1) := by decide +kernel
theorem dX5_agrees_231 : decode cX5_agrees 231 = .ok (.if_icmp .ge 35, 3) := by decide +kernel
theorem dX5_agrees_234 : decode cX5_agrees 234 = .ok (.aload_n 0, 1) := by decide +kernel
theorem dX5_agrees_235 : decode cX5_agrees 235 = .ok (.getfield 47, 3) := by decide +kernel
theorem dX5_agrees_238 : decode cX5_agrees 238 = .ok (.iload 6, 2) := by decide +kernel
theorem dX5_agrees_240 : decode cX5_agrees 240 = .ok (.iaload, 1) := by decide +kernel
theorem dX5_agrees_241 : decode cX5_agrees 241 = .ok (.iload 4, 2) := by decide +kernel
theorem dX5_agrees_243 : decode cX5_agrees 243 = .ok (.if_icmp .ne 17, 3) := by decide +kernel
theorem dX5_agrees_246 : decode cX5_agrees 246 = .ok (.aload_n 0, 1) := by decide +kernel
theorem dX5_agrees_247 : decode cX5_agrees 247 = .ok (.getfield 38, 3) := by decide +kernel
theorem dX5_agrees_250 : decode cX5_agrees 250 = .ok (.iload 6, 2) := by decide +kernel
theorem dX5_agrees_252 : decode cX5_agrees 252 = .ok (.iaload, 1) := by decide +kernel
theorem dX5_agrees_253 : decode cX5_agrees 253 = .ok (.iload 4, 2) := by decide +kernel
theorem dX5_agrees_255 : decode cX5_agrees 255 = .ok (.if_icmp .eq 5, 3) := by decide +kernel
theorem dX5_agrees_258 : decode cX5_agrees 258 = .ok (.iconst 0, 1) := by decide +kernel
theorem dX5_agrees_259 : decode cX5_agrees 259 = .ok (.ireturn, 1) := by decide +kernel
theorem dX5_agrees_260 : decode cX5_agrees 260 = .ok (.iinc 6 1, 3) := by decide +kernel
theorem dX5_agrees_263 : decode cX5_agrees 263 = .ok (.goto (-40), 3) := by decide +kernel
theorem dX5_agrees_266 : decode cX5_agrees 266 = .ok (.goto (-184), 3) := by decide +kernel
theorem dX5_found_0 : decode cX5_found 0 = .ok (.aload_n 0, 1) := by decide +kernel
theorem dX5_found_1 : decode cX5_found 1 = .ok (.iconst 0, 1) := by decide +kernel
theorem dX5_found_2 : decode cX5_found 2 = .ok (.putfield 59, 3) := by decide +kernel
theorem dX5_found_5 : decode cX5_found 5 = .ok (.aload_n 0, 1) := by decide +kernel
theorem dX5_found_6 : decode cX5_found 6 = .ok (.aload_n 0, 1) := by decide +kernel
theorem dX5_found_7 : decode cX5_found 7 = .ok (.iload_n 1, 1) := by decide +kernel
theorem dX5_found_8 : decode cX5_found 8 = .ok (.invokevirtual 84, 3) := by decide +kernel
theorem dX5_found_11 : decode cX5_found 11 = .ok (.iconst 1, 1) := by decide +kernel
theorem dX5_found_12 : decode cX5_found 12 = .ok (.invokevirtual 80, 3) := by decide +kernel
theorem dX5_found_15 : decode cX5_found 15 = .ok (.ifCond .ne 11, 3) := by decide +kernel
theorem dX5_found_18 : decode cX5_found 18 = .ok (.aload_n 0, 1) := by decide +kernel
theorem dX5_found_19 : decode cX5_found 19 = .ok (.iload_n 1, 1) := by decide +kernel
theorem dX5_found_20 : decode cX5_found 20 = .ok (.invokevirtual 133, 3) := by decide +kernel
theorem dX5_found_23 : decode cX5_found 23 = .ok (.ifCond .ne 16, 3) := by decide +kernel
theorem dX5_found_26 : decode cX5_found 26 = .ok (.aload_n 0, 1) := by decide +kernel
theorem dX5_found_27 : decode cX5_found 27 = .ok (.getfield 59, 3) := by decide +kernel
theorem dX5_found_30 : decode cX5_found 30 = .ok (.ifCond .eq 7, 3) := by decide +kernel
theorem dX5_found_33 : decode cX5_found 33 = .ok (.iconst 0, 1) := by decide +kernel
theorem dX5_found_34 : decode cX5_found 34 = .ok (.goto 4, 3) := by decide +kernel
theorem dX5_found_37 : decode cX5_found 37 = .ok (.iconst (-1), 1) := by decide +kernel
theorem dX5_found_38 : decode cX5_found 38 = .ok (.ireturn, 1) := by decide +kernel
theorem dX5_found_39 : decode cX5_found 39 = .ok (.iconst 1, 1) := by decide +kernel
theorem dX5_found_40 : decode cX5_found 40 = .ok (.istore_n 3, 1) := by decide +kernel
theorem dX5_found_41 : decode cX5_found 41 = .ok (.iload_n 3, 1) := by decide +kernel
theorem dX5_found_42 : decode cX5_found 42 = .ok (.bipush 9, 2) := by decide +kernel
theorem dX5_found_44 : decode cX5_found 44 = .ok (.if_icmp .ge 46, 3) := by decide +kernel
theorem dX5_found_47 : decode cX5_found 47 = .ok (.iconst 0, 1) := by decide +kernel
theorem dX5_found_48 : decode cX5_found 48 = .ok (.istore 4, 2) := by decide +kernel
theorem dX5_found_50 : decode cX5_found 50 = .ok (.iload 4, 2) := by decide +kernel
theorem dX5_found_52 : decode cX5_found 52 = .ok (.iconst 4, 1) := by decide +kernel
theorem dX5_found_53 : decode cX5_found 53 = .ok (.if_icmp .ge 31, 3) := by decide +kernel
theorem dX5_found_56 : decode cX5_found 56 = .ok (.aload_n 0, 1) := by decide +kernel
theorem dX5_found_57 : decode cX5_found 57 = .ok (.iload_n 1, 1) := by decide +kernel
theorem dX5_found_58 : decode cX5_found 58 = .ok (.iload_n 3, 1) := by decide +kernel
theorem dX5_found_59 : decode cX5_found 59 = .ok (.iload 4, 2) := by decide +kernel
theorem dX5_found_61 : decode cX5_found 61 = .ok (.invokevirtual 136, 3) := by decide +kernel
theorem dX5_found_64 : decode cX5_found 64 = .ok (.ifCond .eq 14, 3) := by decide +kernel
theorem dX5_found_67 : decode cX5_found 67 = .ok (.iload_n 2, 1) := by decide +kernel
theorem dX5_found_68 : decode cX5_found 68 = .ok (.ifCond .eq 8, 3) := by decide +kernel
theorem dX5_found_71 : decode cX5_found 71 = .ok (.iload 4, 2) := by decide +kernel
theorem dX5_found_73 : decode cX5_found 73 = .ok (.goto 4, 3) := by decide +kernel
theorem dX5_found_76 : decode cX5_found 76 = .ok (.iload_n 3, 1) := by decide +kernel
theorem dX5_found_77 : decode cX5_found 77 = .ok (.ireturn, 1) := by decide +kernel
theorem dX5_found_78 : decode cX5_found 78 = .ok (.iinc 4 1, 3) := by decide +kernel
theorem dX5_found_81 : decode cX5_found 81 = .ok (.goto (-31), 3) := by decide +kernel
theorem dX5_found_84 : decode cX5_found 84 = .ok (.iinc 3 1, 3) := by decide +kernel
theorem dX5_found_87 : decode cX5_found 87 = .ok (.goto (-46), 3) := by decide +kernel
theorem dX5_found_90 : decode cX5_found 90 = .ok (.iconst (-1), 1) := by decide +kernel
theorem dX5_found_91 : decode cX5_found 91 = .ok (.ireturn, 1) := by decide +kernel
theorem dX5_overlap_0 : decode cX5_overlap 0 = .ok (.aload_n 0, 1) := by decide +kernel
theorem dX5_overlap_1 : decode cX5_overlap 1 = .ok (.iconst 0, 1) := by decide +kernel
theorem dX5_overlap_2 : decode cX5_overlap 2 = .ok (.putfield 59, 3) := by decide +kernel
theorem dX5_overlap_5 : decode cX5_overlap 5 = .ok (.aload_n 0, 1) := by decide +kernel
theorem dX5_overlap_6 : decode cX5_overlap 6 = .ok (.aload_n 0, 1) := by decide +kernel
theorem dX5_overlap_7 : decode cX5_overlap 7 = .ok (.iload_n 1, 1) := by decide +kernel
theorem dX5_overlap_8 : decode cX5_overlap 8 = .ok (.invokevirtual 84, 3) := by decide +kernel
theorem dX5_overlap_11 : decode cX5_overlap 11 = .ok (.iconst 1, 1) := by decide +kernel
theorem dX5_overlap_12 : decode cX5_overlap 12 = .ok (.invokevirtual 80, 3) := by decide +kernel
theorem dX5_overlap_15 : decode cX5_overlap 15 = .ok (.ifCond .eq 5, 3) := by decide +kernel
theorem dX5_overlap_18 : decode cX5_overlap 18 = .ok (.iconst 0, 1) := by decide +kernel
theorem dX5_overlap_19 : decode cX5_overlap 19 = .ok (.ireturn, 1) := by decide +kernel
theorem dX5_overlap_20 : decode cX5_overlap 20 = .ok (.iconst 0, 1) := by decide +kernel
theorem dX5_overlap_21 : decode cX5_overlap 21 = .ok (.istore_n 2, 1) := by decide +kernel
theorem dX5_overlap_22 : decode cX5_overlap 22 = .ok (.iconst 0, 1) := by decide +kernel
theorem dX5_overlap_23 : decode cX5_overlap 23 = .ok (.istore_n 3, 1) := by decide +kernel
theorem dX5_overlap_24 : decode cX5_overlap 24 = .ok (.iload_n 3, 1) := by decide +kernel
theorem dX5_overlap_25 : decode cX5_overlap 25 = .ok (.sipush 300, 3) := by decide +kernel
theorem dX5_overlap_28 : decode cX5_overlap 28 = .ok (.if_icmp .ge 138, 3) := by decide +kernel
theorem dX5_overlap_31 : decode cX5_overlap 31 = .ok (.aload_n 0, 1) := by decide +kernel
theorem dX5_overlap_32 : decode cX5_overlap 32 = .ok (.iload_n 3, 1) := by decide +kernel
theorem dX5_overlap_33 : decode cX5_overlap 33 = .ok (.invokevirtual 123, 3) := by decide +kernel
theorem dX5_overlap_36 : decode cX5_overlap 36 = .ok (.ifCond .eq 124, 3) := by decide +kernel
theorem dX5_overlap_39 : decode cX5_overlap 39 = .ok (.aload_n 0, 1) := by decide +kernel
theorem dX5_overlap_40 : decode cX5_overlap 40 = .ok (.getfield 28, 3) := by decide +kernel
theorem dX5_overlap_43 : decode cX5_overlap 43 = .ok (.iload_n 3, 1) := by decide +kernel
theorem dX5_overlap_44 : decode cX5_overlap 44 = .ok (.iaload, 1) := by decide +kernel
theorem dX5_overlap_45 : decode cX5_overlap 45 = .ok (.iload_n 1, 1) := by decide +kernel
theorem dX5_overlap_46 : decode cX5_overlap 46 = .ok (.if_icmp .ne 114, 3) := by decide +kernel
theorem dX5_overlap_49 : decode cX5_overlap 49 = .ok (.aload_n 0, 1) := by decide +kernel
theorem dX5_overlap_50 : decode cX5_overlap 50 = .ok (.getfield 34, 3) := by decide +kernel
theorem dX5_overlap_53 : decode cX5_overlap 53 = .ok (.iload_n 3, 1) := by decide +kernel
theorem dX5_overlap_54 : decode cX5_overlap 54 = .ok (.baload, 1) := by decide +kernel
theorem dX5_overlap_55 : decode cX5_overlap 55 = .ok (.ifCond .ne 6, 3) := by decide +kernel
theorem dX5_overlap_58 : decode cX5_overlap 58 = .ok (.goto 102, 3) := by decide +kernel
theorem dX5_overlap_61 : decode cX5_overlap 61 = .ok (.iconst 0, 1) := by decide +kernel
theorem dX5_overlap_62 : decode cX5_overlap 62 = .ok (.istore 4, 2) := by decide +kernel
theorem dX5_overlap_64 : decode cX5_overlap 64 = .ok (.iconst 0, 1) := by decide +kernel
theorem dX5_overlap_65 : decode cX5_overlap 65 = .ok (.istore 5, 2) := by decide +kernel
theorem dX5_overlap_67 : decode cX5_overlap 67 = .ok (.iload 5, 2) := by decide +kernel
theorem dX5_overlap_69 : decode cX5_overlap 69 = .ok (.sipush 300, 3) := by decide +kernel
theorem dX5_overlap_72 : decode cX5_overlap 72 = .ok (.if_icmp .ge 81, 3) := by decide +kernel
theorem dX5_overlap_75 : decode cX5_overlap 75 = .ok (.iload 4, 2) := by decide +kernel
theorem dX5_overlap_77 : decode cX5_overlap 77 = .ok (.aload_n 0, 1) := by decide +kernel
theorem dX5_overlap_78 : decode cX5_overlap 78 = .ok (.iload 5, 2) := by decide +kernel
theorem dX5_overlap_80 : decode cX5_overlap 80 = .ok (.invokevirtual 123, 3) := by decide +kernel
theorem dX5_overlap_83 : decode cX5_overlap 83 = .ok (.ifCond .eq 60, 3) := by decide +kernel
theorem dX5_overlap_86 : decode cX5_overlap 86 = .ok (.aload_n 0, 1) := by decide +kernel
theorem dX5_overlap_87 : decode cX5_overlap 87 = .ok (.getfield 28, 3) := by decide +kernel
theorem dX5_overlap_90 : decode cX5_overlap 90 = .ok (.iload 5, 2) := by decide +kernel
theorem dX5_overlap_92 : decode cX5_overlap 92 = .ok (.iaload, 1) := by decide +kernel
theorem dX5_overlap_93 : decode cX5_overlap 93 = .ok (.iload_n 1, 1) := by decide +kernel
theorem dX5_overlap_94 : decode cX5_overlap 94 = .ok (.if_icmp .ne 49, 3) := by decide +kernel
theorem dX5_overlap_97 : decode cX5_overlap 97 = .ok (.aload_n 0, 1) := by decide +kernel
theorem dX5_overlap_98 : decode cX5_overlap 98 = .ok (.getfield 34, 3) := by decide +kernel
theorem dX5_overlap_101 : decode cX5_overlap 101 = .ok (.iload 5, 2) := by decide +kernel
theorem dX5_overlap_103 : decode cX5_overlap 103 = .ok (.baload, 1) := by decide +kernel
theorem dX5_overlap_104 : decode cX5_overlap 104 = .ok (.ifCond .eq 39, 3) := by decide +kernel
theorem dX5_overlap_107 : decode cX5_overlap 107 = .ok (.aload_n 0, 1) := by decide +kernel
theorem dX5_overlap_108 : decode cX5_overlap 108 = .ok (.getfield 38, 3) := by decide +kernel
theorem dX5_overlap_111 : decode cX5_overlap 111 = .ok (.iload 5, 2) := by decide +kernel
theorem dX5_overlap_113 : decode cX5_overlap 113 = .ok (.iaload, 1) := by decide +kernel
theorem dX5_overlap_114 : decode cX5_overlap 114 = .ok (.aload_n 0, 1) := by decide +kernel
theorem dX5_overlap_115 : decode cX5_overlap 115 = .ok (.getfield 38, 3) := by decide +kernel
theorem dX5_overlap_118 : decode cX5_overlap 118 = .ok (.iload_n 3, 1) := by decide +kernel
theorem dX5_overlap_119 : decode cX5_overlap 119 = .ok (.iaload, 1) := by decide +kernel
theorem dX5_overlap_120 : decode cX5_overlap 120 = .ok (.if_icmp .gt 23, 3) := by decide +kernel
theorem dX5_overlap_123 : decode cX5_overlap 123 = .ok (.aload_n 0, 1) := by decide +kernel
theorem dX5_overlap_124 : decode cX5_overlap 124 = .ok (.getfield 41, 3) := by decide +kernel
theorem dX5_overlap_127 : decode cX5_overlap 127 = .ok (.iload 5, 2) := by decide +kernel
theorem dX5_overlap_129 : decode cX5_overlap 129 = .ok (.iaload, 1) := by decide +kernel
theorem dX5_overlap_130 : decode cX5_overlap 130 = .ok (.aload_n 0, 1) := by decide +kernel
theorem dX5_overlap_131 : decode cX5_overlap 131 = .ok (.getfield 38, 3) := by decide +kernel
theorem dX5_overlap_134 : decode cX5_overlap 134 = .ok (.iload_n 3, 1) := by decide +kernel
theorem dX5_overlap_135 : decode cX5_overlap 135 = .ok (.iaload, 1) := by decide +kernel
theorem dX5_overlap_136 : decode cX5_overlap 136 = .ok (.if_icmp .le 7, 3) := by decide +kernel
theorem dX5_overlap_139 : decode cX5_overlap 139 = .ok (.iconst 1, 1) := by decide +kernel
theorem dX5_overlap_140 : decode cX5_overlap 140 = .ok (.goto 4, 3) := by decide +kernel
theorem dX5_overlap_143 : decode cX5_overlap 143 = .ok (.iconst 0, 1) := by decide +kernel
theorem dX5_overlap_144 : decode cX5_overlap 144 = .ok (.iadd, 1) := by decide +kernel
theorem dX5_overlap_145 : decode cX5_overlap 145 = .ok (.istore 4, 2) := by decide +kernel
theorem dX5_overlap_147 : decode cX5_overlap 147 = .ok (.iinc 5 1, 3) := by decide +kernel
theorem dX5_overlap_150 : decode cX5_overlap 150 = .ok (.goto (-83), 3) := by decide +kernel
theorem dX5_overlap_153 : decode cX5_overlap 153 = .ok (.iload_n 2, 1) := by decide +kernel
theorem dX5_overlap_154 : decode cX5_overlap 154 = .ok (.iload 4, 2) := by decide +kernel
theorem dX5_overlap_156 : decode cX5_overlap 156 = .ok (.invokestatic 112, 3) := by decide +kernel
theorem dX5_overlap_159 : decode cX5_overlap 159 = .ok (.istore_n 2, 1) := by decide +kernel
theorem dX5_overlap_160 : decode cX5_overlap 160 = .ok (.iinc 3 1, 3) := by decide +kernel
theorem dX5_overlap_163 : decode cX5_overlap 163 = .ok (.goto (-139), 3) := by decide +kernel
theorem dX5_overlap_166 : decode cX5_overlap 166 = .ok (.iload_n 2, 1) := by decide +kernel
theorem dX5_overlap_167 : decode cX5_overlap 167 = .ok (.ireturn, 1) := by decide +kernel
theorem dX5_common_0 : decode cX5_common 0 = .ok (.lconst 0, 1) := by decide +kernel
theorem dX5_common_1 : decode cX5_common 1 = .ok (.iload_n 1, 1) := by decide +kernel
theorem dX5_common_2 : decode cX5_common 2 = .ok (.iload_n 3, 1) := by decide +kernel
theorem dX5_common_3 : decode cX5_common 3 = .ok (.invokestatic 107, 3) := by decide +kernel
theorem dX5_common_6 : decode cX5_common 6 = .ok (.i2l, 1) := by decide +kernel
theorem dX5_common_7 : decode cX5_common 7 = .ok (.iload_n 0, 1) := by decide +kernel
theorem dX5_common_8 : decode cX5_common 8 = .ok (.iload_n 2, 1) := by decide +kernel
theorem dX5_common_9 : decode cX5_common 9 = .ok (.invokestatic 112, 3) := by decide +kernel
theorem dX5_common_12 : decode cX5_common 12 = .ok (.i2l, 1) := by decide +kernel
theorem dX5_common_13 : decode cX5_common 13 = .ok (.lsub, 1) := by decide +kernel
theorem dX5_common_14 : decode cX5_common 14 = .ok (.invokestatic 139, 3) := by decide +kernel
theorem dX5_common_17 : decode cX5_common 17 = .ok (.lreturn, 1) := by decide +kernel
theorem dX5_counts_0 : decode cX5_counts 0 = .ok (.aload_n 0, 1) := by decide +kernel
theorem dX5_counts_1 : decode cX5_counts 1 = .ok (.iconst 0, 1) := by decide +kernel
theorem dX5_counts_2 : decode cX5_counts 2 = .ok (.putfield 59, 3) := by decide +kernel
theorem dX5_counts_5 : decode cX5_counts 5 = .ok (.aload_n 0, 1) := by decide +kernel
theorem dX5_counts_6 : decode cX5_counts 6 = .ok (.aload_n 0, 1) := by decide +kernel
theorem dX5_counts_7 : decode cX5_counts 7 = .ok (.iload_n 1, 1) := by decide +kernel
theorem dX5_counts_8 : decode cX5_counts 8 = .ok (.invokevirtual 84, 3) := by decide +kernel
theorem dX5_counts_11 : decode cX5_counts 11 = .ok (.iconst 1, 1) := by decide +kernel
theorem dX5_counts_12 : decode cX5_counts 12 = .ok (.invokevirtual 80, 3) := by decide +kernel
theorem dX5_counts_15 : decode cX5_counts 15 = .ok (.ifCond .ne 56, 3) := by decide +kernel
theorem dX5_counts_18 : decode cX5_counts 18 = .ok (.aload_n 0, 1) := by decide +kernel
theorem dX5_counts_19 : decode cX5_counts 19 = .ok (.iload_n 3, 1) := by decide +kernel
theorem dX5_counts_20 : decode cX5_counts 20 = .ok (.ifCond .lt 16, 3) := by decide +kernel
theorem dX5_counts_23 : decode cX5_counts 23 = .ok (.iload 4, 2) := by decide +kernel
theorem dX5_counts_25 : decode cX5_counts 25 = .ok (.iload_n 3, 1) := by decide +kernel
theorem dX5_counts_26 : decode cX5_counts 26 = .ok (.if_icmp .lt 10, 3) := by decide +kernel
theorem dX5_counts_29 : decode cX5_counts 29 = .ok (.iload 4, 2) := by decide +kernel
theorem dX5_counts_31 : decode cX5_counts 31 = .ok (.ldc 92, 2) := by decide +kernel
theorem dX5_counts_33 : decode cX5_counts 33 = .ok (.if_icmp .le 7, 3) := by decide +kernel
theorem dX5_counts_36 : decode cX5_counts 36 = .ok (.iconst 1, 1) := by decide +kernel
theorem dX5_counts_37 : decode cX5_counts 37 = .ok (.goto 4, 3) := by decide +kernel
theorem dX5_counts_40 : decode cX5_counts 40 = .ok (.iconst 0, 1) := by decide +kernel
theorem dX5_counts_41 : decode cX5_counts 41 = .ok (.iconst 2, 1) := by decide +kernel
theorem dX5_counts_42 : decode cX5_counts 42 = .ok (.invokevirtual 80, 3) := by decide +kernel
theorem dX5_counts_45 : decode cX5_counts 45 = .ok (.ifCond .ne 26, 3) := by decide +kernel
theorem dX5_counts_48 : decode cX5_counts 48 = .ok (.aload_n 0, 1) := by decide +kernel
theorem dX5_counts_49 : decode cX5_counts 49 = .ok (.iload 5, 2) := by decide +kernel
theorem dX5_counts_51 : decode cX5_counts 51 = .ok (.iconst 0, 1) := by decide +kernel
theorem dX5_counts_52 : decode cX5_counts 52 = .ok (.iconst 3, 1) := by decide +kernel
theorem dX5_counts_53 : decode cX5_counts 53 = .ok (.invokestatic 66, 3) := by decide +kernel
theorem dX5_counts_56 : decode cX5_counts 56 = .ok (.ifCond .ne 7, 3) := by decide +kernel
theorem dX5_counts_59 : decode cX5_counts 59 = .ok (.iconst 1, 1) := by decide +kernel
theorem dX5_counts_60 : decode cX5_counts 60 = .ok (.goto 4, 3) := by decide +kernel
theorem dX5_counts_63 : decode cX5_counts 63 = .ok (.iconst 0, 1) := by decide +kernel
theorem dX5_counts_64 : decode cX5_counts 64 = .ok (.iconst 3, 1) := by decide +kernel
theorem dX5_counts_65 : decode cX5_counts 65 = .ok (.invokevirtual 80, 3) := by decide +kernel
theorem dX5_counts_68 : decode cX5_counts 68 = .ok (.ifCond .eq 5, 3) := by decide +kernel
theorem dX5_counts_71 : decode cX5_counts 71 = .ok (.lconst 0, 1) := by decide +kernel
theorem dX5_counts_72 : decode cX5_counts 72 = .ok (.lreturn, 1) := by decide +kernel
theorem dX5_counts_73 : decode cX5_counts 73 = .ok (.iload_n 2, 1) := by decide +kernel
theorem dX5_counts_74 : decode cX5_counts 74 = .ok (.ifCond .ne 10, 3) := by decide +kernel
theorem dX5_counts_77 : decode cX5_counts 77 = .ok (.aload_n 0, 1) := by decide +kernel
theorem dX5_counts_78 : decode cX5_counts 78 = .ok (.iconst (-1), 1) := by decide +kernel
theorem dX5_counts_79 : decode cX5_counts 79 = .ok (.invokevirtual 119, 3) := by decide +kernel
theorem dX5_counts_82 : decode cX5_counts 82 = .ok (.istore 6, 2) := by decide +kernel
theorem dX5_counts_84 : decode cX5_counts 84 = .ok (.lconst 0, 1) := by decide +kernel
theorem dX5_counts_85 : decode cX5_counts 85 = .ok (.lstore 6, 2) := by decide +kernel
theorem dX5_counts_87 : decode cX5_counts 87 = .ok (.iconst 0, 1) := by decide +kernel
theorem dX5_counts_88 : decode cX5_counts 88 = .ok (.istore 8, 2) := by decide +kernel
theorem dX5_counts_90 : decode cX5_counts 90 = .ok (.iload 8, 2) := by decide +kernel
theorem dX5_counts_92 : decode cX5_counts 92 = .ok (.sipush 300, 3) := by decide +kernel
theorem dX5_counts_95 : decode cX5_counts 95 = .ok (.if_icmp .ge 236, 3) := by decide +kernel
theorem dX5_counts_98 : decode cX5_counts 98 = .ok (.aload_n 0, 1) := by decide +kernel
theorem dX5_counts_99 : decode cX5_counts 99 = .ok (.iload 8, 2) := by decide +kernel
theorem dX5_counts_101 : decode cX5_counts 101 = .ok (.invokevirtual 123, 3) := by decide +kernel
theorem dX5_counts_104 : decode cX5_counts 104 = .ok (.ifCond .eq 221, 3) := by decide +kernel
theorem dX5_counts_107 : decode cX5_counts 107 = .ok (.aload_n 0, 1) := by decide +kernel
theorem dX5_counts_108 : decode cX5_counts 108 = .ok (.getfield 28, 3) := by decide +kernel
theorem dX5_counts_111 : decode cX5_counts 111 = .ok (.iload 8, 2) := by decide +kernel
theorem dX5_counts_113 : decode cX5_counts 113 = .ok (.iaload, 1) := by decide +kernel
theorem dX5_counts_114 : decode cX5_counts 114 = .ok (.iload_n 1, 1) := by decide +kernel
theorem dX5_counts_115 : decode cX5_counts 115 = .ok (.if_icmp .ne 210, 3) := by decide +kernel
theorem dX5_counts_118 : decode cX5_counts 118 = .ok (.iload_n 2, 1) := by decide +kernel
theorem dX5_counts_119 : decode cX5_counts 119 = .ok (.ifCond .eq 25, 3) := by decide +kernel
theorem dX5_counts_122 : decode cX5_counts 122 = .ok (.aload_n 0, 1) := by decide +kernel
theorem dX5_counts_123 : decode cX5_counts 123 = .ok (.getfield 34, 3) := by decide +kernel
theorem dX5_counts_126 : decode cX5_counts 126 = .ok (.iload 8, 2) := by decide +kernel
theorem dX5_counts_128 : decode cX5_counts 128 = .ok (.baload, 1) := by decide +kernel
theorem dX5_counts_129 : decode cX5_counts 129 = .ok (.ifCond .eq 196, 3) := by decide +kernel
theorem dX5_counts_132 : decode cX5_counts 132 = .ok (.aload_n 0, 1) := by decide +kernel
theorem dX5_counts_133 : decode cX5_counts 133 = .ok (.iload 8, 2) := by decide +kernel
theorem dX5_counts_135 : decode cX5_counts 135 = .ok (.invokevirtual 130, 3) := by decide +kernel
theorem dX5_counts_138 : decode cX5_counts 138 = .ok (.ifCond .ge 6, 3) := by decide +kernel
theorem dX5_counts_141 : decode cX5_counts 141 = .ok (.goto 184, 3) := by decide +kernel
theorem dX5_counts_144 : decode cX5_counts 144 = .ok (.iload_n 2, 1) := by decide +kernel
theorem dX5_counts_145 : decode cX5_counts 145 = .ok (.ifCond .eq 12, 3) := by decide +kernel
theorem dX5_counts_148 : decode cX5_counts 148 = .ok (.aload_n 0, 1) := by decide +kernel
theorem dX5_counts_149 : decode cX5_counts 149 = .ok (.iload 8, 2) := by decide +kernel
theorem dX5_counts_151 : decode cX5_counts 151 = .ok (.invokevirtual 130, 3) := by decide +kernel
theorem dX5_counts_154 : decode cX5_counts 154 = .ok (.goto 10, 3) := by decide +kernel
theorem dX5_counts_157 : decode cX5_counts 157 = .ok (.aload_n 0, 1) := by decide +kernel
theorem dX5_counts_158 : decode cX5_counts 158 = .ok (.getfield 44, 3) := by decide +kernel
theorem dX5_counts_161 : decode cX5_counts 161 = .ok (.iload 8, 2) := by decide +kernel
theorem dX5_counts_163 : decode cX5_counts 163 = .ok (.iaload, 1) := by decide +kernel
theorem dX5_counts_164 : decode cX5_counts 164 = .ok (.istore 9, 2) := by decide +kernel
theorem dX5_counts_166 : decode cX5_counts 166 = .ok (.iload_n 2, 1) := by decide +kernel
theorem dX5_counts_167 : decode cX5_counts 167 = .ok (.ifCond .eq 13, 3) := by decide +kernel
theorem dX5_counts_170 : decode cX5_counts 170 = .ok (.aload_n 0, 1) := by decide +kernel
theorem dX5_counts_171 : decode cX5_counts 171 = .ok (.getfield 38, 3) := by decide +kernel
theorem dX5_counts_174 : decode cX5_counts 174 = .ok (.iload 8, 2) := by decide +kernel
theorem dX5_counts_176 : decode cX5_counts 176 = .ok (.iaload, 1) := by decide +kernel
theorem dX5_counts_177 : decode cX5_counts 177 = .ok (.goto 10, 3) := by decide +kernel
theorem dX5_counts_180 : decode cX5_counts 180 = .ok (.aload_n 0, 1) := by decide +kernel
theorem dX5_counts_181 : decode cX5_counts 181 = .ok (.getfield 47, 3) := by decide +kernel
theorem dX5_counts_184 : decode cX5_counts 184 = .ok (.iload 8, 2) := by decide +kernel
theorem dX5_counts_186 : decode cX5_counts 186 = .ok (.iaload, 1) := by decide +kernel
theorem dX5_counts_187 : decode cX5_counts 187 = .ok (.istore 10, 2) := by decide +kernel
theorem dX5_counts_189 : decode cX5_counts 189 = .ok (.iload_n 2, 1) := by decide +kernel
theorem dX5_counts_190 : decode cX5_counts 190 = .ok (.ifCond .eq 13, 3) := by decide +kernel
theorem dX5_counts_193 : decode cX5_counts 193 = .ok (.aload_n 0, 1) := by decide +kernel
theorem dX5_counts_194 : decode cX5_counts 194 = .ok (.getfield 41, 3) := by decide +kernel
theorem dX5_counts_197 : decode cX5_counts 197 = .ok (.iload 8, 2) := by decide +kernel
theorem dX5_counts_199 : decode cX5_counts 199 = .ok (.iaload, 1) := by decide +kernel
theorem dX5_counts_200 : decode cX5_counts 200 = .ok (.goto 10, 3) := by decide +kernel
theorem dX5_counts_203 : decode cX5_counts 203 = .ok (.aload_n 0, 1) := by decide +kernel
theorem dX5_counts_204 : decode cX5_counts 204 = .ok (.getfield 50, 3) := by decide +kernel
theorem dX5_counts_207 : decode cX5_counts 207 = .ok (.iload 8, 2) := by decide +kernel
theorem dX5_counts_209 : decode cX5_counts 209 = .ok (.iaload, 1) := by decide +kernel
theorem dX5_counts_210 : decode cX5_counts 210 = .ok (.istore 11, 2) := by decide +kernel
theorem dX5_counts_212 : decode cX5_counts 212 = .ok (.iload 5, 2) := by decide +kernel
theorem dX5_counts_214 : decode cX5_counts 214 = .ok (.tableswitch 96 0 2 #[26, 52, 78], 26) := by decide +kernel
theorem dX5_counts_240 : decode cX5_counts 240 = .ok (.lload 6, 2) := by decide +kernel
theorem dX5_counts_242 : decode cX5_counts 242 = .ok (.iload 9, 2) := by decide +kernel
theorem dX5_counts_244 : decode cX5_counts 244 = .ok (.iload_n 3, 1) := by decide +kernel
theorem dX5_counts_245 : decode cX5_counts 245 = .ok (.if_icmp .lt 14, 3) := by decide +kernel
theorem dX5_counts_248 : decode cX5_counts 248 = .ok (.iload 9, 2) := by decide +kernel
theorem dX5_counts_250 : decode cX5_counts 250 = .ok (.iload 4, 2) := by decide +kernel
theorem dX5_counts_252 : decode cX5_counts 252 = .ok (.if_icmp .ge 7, 3) := by decide +kernel
theorem dX5_counts_255 : decode cX5_counts 255 = .ok (.lconst 1, 1) := by decide +kernel
theorem dX5_counts_256 : decode cX5_counts 256 = .ok (.goto 4, 3) := by decide +kernel
theorem dX5_counts_259 : decode cX5_counts 259 = .ok (.lconst 0, 1) := by decide +kernel
theorem dX5_counts_260 : decode cX5_counts 260 = .ok (.ladd, 1) := by decide +kernel
theorem dX5_counts_261 : decode cX5_counts 261 = .ok (.lstore 6, 2) := by decide +kernel
theorem dX5_counts_263 : decode cX5_counts 263 = .ok (.goto 62, 3) := by decide +kernel
theorem dX5_counts_266 : decode cX5_counts 266 = .ok (.lload 6, 2) := by decide +kernel
theorem dX5_counts_268 : decode cX5_counts 268 = .ok (.iload 11, 2) := by decide +kernel
theorem dX5_counts_270 : decode cX5_counts 270 = .ok (.iload_n 3, 1) := by decide +kernel
theorem dX5_counts_271 : decode cX5_counts 271 = .ok (.if_icmp .lt 14, 3) := by decide +kernel
theorem dX5_counts_274 : decode cX5_counts 274 = .ok (.iload 11, 2) := by decide +kernel
theorem dX5_counts_276 : decode cX5_counts 276 = .ok (.iload 4, 2) := by decide +kernel
theorem dX5_counts_278 : decode cX5_counts 278 = .ok (.if_icmp .ge 7, 3) := by decide +kernel
theorem dX5_counts_281 : decode cX5_counts 281 = .ok (.lconst 1, 1) := by decide +kernel
theorem dX5_counts_282 : decode cX5_counts 282 = .ok (.goto 4, 3) := by decide +kernel
theorem dX5_counts_285 : decode cX5_counts 285 = .ok (.lconst 0, 1) := by decide +kernel
theorem dX5_counts_286 : decode cX5_counts 286 = .ok (.ladd, 1) := by decide +kernel
theorem dX5_counts_287 : decode cX5_counts 287 = .ok (.lstore 6, 2) := by decide +kernel
theorem dX5_counts_289 : decode cX5_counts 289 = .ok (.goto 36, 3) := by decide +kernel
theorem dX5_counts_292 : decode cX5_counts 292 = .ok (.lload 6, 2) := by decide +kernel
theorem dX5_counts_294 : decode cX5_counts 294 = .ok (.iload 9, 2) := by decide +kernel
theorem dX5_counts_296 : decode cX5_counts 296 = .ok (.iload 11, 2) := by decide +kernel
theorem dX5_counts_298 : decode cX5_counts 298 = .ok (.iload_n 3, 1) := by decide +kernel
theorem dX5_counts_299 : decode cX5_counts 299 = .ok (.iload 4, 2) := by decide +kernel
theorem dX5_counts_301 : decode cX5_counts 301 = .ok (.invokestatic 142, 3) := by decide +kernel
theorem dX5_counts_304 : decode cX5_counts 304 = .ok (.ladd, 1) := by decide +kernel
theorem dX5_counts_305 : decode cX5_counts 305 = .ok (.lstore 6, 2) := by decide +kernel
theorem dX5_counts_307 : decode cX5_counts 307 = .ok (.goto 18, 3) := by decide +kernel
theorem dX5_counts_310 : decode cX5_counts 310 = .ok (.lload 6, 2) := by decide +kernel
theorem dX5_counts_312 : decode cX5_counts 312 = .ok (.iload 10, 2) := by decide +kernel
theorem dX5_counts_314 : decode cX5_counts 314 = .ok (.iload 11, 2) := by decide +kernel
theorem dX5_counts_316 : decode cX5_counts 316 = .ok (.iload_n 3, 1) := by decide +kernel
theorem dX5_counts_317 : decode cX5_counts 317 = .ok (.iload 4, 2) := by decide +kernel
theorem dX5_counts_319 : decode cX5_counts 319 = .ok (.invokestatic 142, 3) := by decide +kernel
theorem dX5_counts_322 : decode cX5_counts 322 = .ok (.ladd, 1) := by decide +kernel
theorem dX5_counts_323 : decode cX5_counts 323 = .ok (.lstore 6, 2) := by decide +kernel
theorem dX5_counts_325 : decode cX5_counts 325 = .ok (.iinc 8 1, 3) := by decide +kernel
theorem dX5_counts_328 : decode cX5_counts 328 = .ok (.goto (-238), 3) := by decide +kernel
theorem dX5_counts_331 : decode cX5_counts 331 = .ok (.lload 6, 2) := by decide +kernel
theorem dX5_counts_333 : decode cX5_counts 333 = .ok (.lreturn, 1) := by decide +kernel
theorem dX5_totalWith_0 : decode cX5_totalWith 0 = .ok (.aload_n 0, 1) := by decide +kernel
theorem dX5_totalWith_1 : decode cX5_totalWith 1 = .ok (.iload_n 1, 1) := by decide +kernel
theorem dX5_totalWith_2 : decode cX5_totalWith 2 = .ok (.invokevirtual 119, 3) := by decide +kernel
theorem dX5_totalWith_5 : decode cX5_totalWith 5 = .ok (.istore_n 2, 1) := by decide +kernel
theorem dX5_totalWith_6 : decode cX5_totalWith 6 = .ok (.lconst 0, 1) := by decide +kernel
theorem dX5_totalWith_7 : decode cX5_totalWith 7 = .ok (.lstore_n 3, 1) := by decide +kernel
theorem dX5_totalWith_8 : decode cX5_totalWith 8 = .ok (.iconst 0, 1) := by decide +kernel
theorem dX5_totalWith_9 : decode cX5_totalWith 9 = .ok (.istore 5, 2) := by decide +kernel
theorem dX5_totalWith_11 : decode cX5_totalWith 11 = .ok (.iload 5, 2) := by decide +kernel
theorem dX5_totalWith_13 : decode cX5_totalWith 13 = .ok (.aload_n 0, 1) := by decide +kernel
theorem dX5_totalWith_14 : decode cX5_totalWith 14 = .ok (.getfield 70, 3) := by decide +kernel
theorem dX5_totalWith_17 : decode cX5_totalWith 17 = .ok (.if_icmp .ge 40, 3) := by decide +kernel
theorem dX5_totalWith_20 : decode cX5_totalWith 20 = .ok (.lload_n 3, 1) := by decide +kernel
theorem dX5_totalWith_21 : decode cX5_totalWith 21 = .ok (.aload_n 0, 1) := by decide +kernel
theorem dX5_totalWith_22 : decode cX5_totalWith 22 = .ok (.getfield 50, 3) := by decide +kernel
theorem dX5_totalWith_25 : decode cX5_totalWith 25 = .ok (.iconst 5, 1) := by decide +kernel
theorem dX5_totalWith_26 : decode cX5_totalWith 26 = .ok (.iload 5, 2) := by decide +kernel
theorem dX5_totalWith_28 : decode cX5_totalWith 28 = .ok (.imul, 1) := by decide +kernel
theorem dX5_totalWith_29 : decode cX5_totalWith 29 = .ok (.aload_n 0, 1) := by decide +kernel
theorem dX5_totalWith_30 : decode cX5_totalWith 30 = .ok (.getfield 25, 3) := by decide +kernel
theorem dX5_totalWith_33 : decode cX5_totalWith 33 = .ok (.iload 5, 2) := by decide +kernel
theorem dX5_totalWith_35 : decode cX5_totalWith 35 = .ok (.iaload, 1) := by decide +kernel
theorem dX5_totalWith_36 : decode cX5_totalWith 36 = .ok (.iadd, 1) := by decide +kernel
theorem dX5_totalWith_37 : decode cX5_totalWith 37 = .ok (.iconst 1, 1) := by decide +kernel
theorem dX5_totalWith_38 : decode cX5_totalWith 38 = .ok (.isub, 1) := by decide +kernel
theorem dX5_totalWith_39 : decode cX5_totalWith 39 = .ok (.iaload, 1) := by decide +kernel
theorem dX5_totalWith_40 : decode cX5_totalWith 40 = .ok (.aload_n 0, 1) := by decide +kernel
theorem dX5_totalWith_41 : decode cX5_totalWith 41 = .ok (.getfield 22, 3) := by decide +kernel
theorem dX5_totalWith_44 : decode cX5_totalWith 44 = .ok (.iload 5, 2) := by decide +kernel
theorem dX5_totalWith_46 : decode cX5_totalWith 46 = .ok (.iaload, 1) := by decide +kernel
theorem dX5_totalWith_47 : decode cX5_totalWith 47 = .ok (.isub, 1) := by decide +kernel
theorem dX5_totalWith_48 : decode cX5_totalWith 48 = .ok (.i2l, 1) := by decide +kernel
theorem dX5_totalWith_49 : decode cX5_totalWith 49 = .ok (.ladd, 1) := by decide +kernel
theorem dX5_totalWith_50 : decode cX5_totalWith 50 = .ok (.lstore_n 3, 1) := by decide +kernel
theorem dX5_totalWith_51 : decode cX5_totalWith 51 = .ok (.iinc 5 1, 3) := by decide +kernel
theorem dX5_totalWith_54 : decode cX5_totalWith 54 = .ok (.goto (-43), 3) := by decide +kernel
theorem dX5_totalWith_57 : decode cX5_totalWith 57 = .ok (.lload_n 3, 1) := by decide +kernel
theorem dX5_totalWith_58 : decode cX5_totalWith 58 = .ok (.lreturn, 1) := by decide +kernel
theorem dX5_total_0 : decode cX5_total 0 = .ok (.aload_n 0, 1) := by decide +kernel
theorem dX5_total_1 : decode cX5_total 1 = .ok (.iconst 0, 1) := by decide +kernel
theorem dX5_total_2 : decode cX5_total 2 = .ok (.putfield 59, 3) := by decide +kernel
theorem dX5_total_5 : decode cX5_total 5 = .ok (.aload_n 0, 1) := by decide +kernel
theorem dX5_total_6 : decode cX5_total 6 = .ok (.iconst (-1), 1) := by decide +kernel
theorem dX5_total_7 : decode cX5_total 7 = .ok (.invokevirtual 146, 3) := by decide +kernel
theorem dX5_total_10 : decode cX5_total 10 = .ok (.lreturn, 1) := by decide +kernel
theorem dX5_saved_0 : decode cX5_saved 0 = .ok (.aload_n 0, 1) := by decide +kernel
theorem dX5_saved_1 : decode cX5_saved 1 = .ok (.iconst 0, 1) := by decide +kernel
theorem dX5_saved_2 : decode cX5_saved 2 = .ok (.putfield 59, 3) := by decide +kernel
theorem dX5_saved_5 : decode cX5_saved 5 = .ok (.aload_n 0, 1) := by decide +kernel
theorem dX5_saved_6 : decode cX5_saved 6 = .ok (.aload_n 0, 1) := by decide +kernel
theorem dX5_saved_7 : decode cX5_saved 7 = .ok (.iload_n 1, 1) := by decide +kernel
theorem dX5_saved_8 : decode cX5_saved 8 = .ok (.invokevirtual 84, 3) := by decide +kernel
theorem dX5_saved_11 : decode cX5_saved 11 = .ok (.iconst 1, 1) := by decide +kernel
theorem dX5_saved_12 : decode cX5_saved 12 = .ok (.invokevirtual 80, 3) := by decide +kernel
theorem dX5_saved_15 : decode cX5_saved 15 = .ok (.ifCond .eq 7, 3) := by decide +kernel
theorem dX5_saved_18 : decode cX5_saved 18 = .ok (.lconst 0, 1) := by decide +kernel
theorem dX5_saved_19 : decode cX5_saved 19 = .ok (.goto 14, 3) := by decide +kernel
theorem dX5_saved_22 : decode cX5_saved 22 = .ok (.aload_n 0, 1) := by decide +kernel
theorem dX5_saved_23 : decode cX5_saved 23 = .ok (.iconst (-1), 1) := by decide +kernel
theorem dX5_saved_24 : decode cX5_saved 24 = .ok (.invokevirtual 146, 3) := by decide +kernel
theorem dX5_saved_27 : decode cX5_saved 27 = .ok (.aload_n 0, 1) := by decide +kernel
theorem dX5_saved_28 : decode cX5_saved 28 = .ok (.iload_n 1, 1) := by decide +kernel
theorem dX5_saved_29 : decode cX5_saved 29 = .ok (.invokevirtual 146, 3) := by decide +kernel
theorem dX5_saved_32 : decode cX5_saved 32 = .ok (.lsub, 1) := by decide +kernel
theorem dX5_saved_33 : decode cX5_saved 33 = .ok (.lreturn, 1) := by decide +kernel
theorem dX5_narrow_0 : decode cX5_narrow 0 = .ok (.aload_n 0, 1) := by decide +kernel
theorem dX5_narrow_1 : decode cX5_narrow 1 = .ok (.iconst 0, 1) := by decide +kernel
theorem dX5_narrow_2 : decode cX5_narrow 2 = .ok (.putfield 59, 3) := by decide +kernel
theorem dX5_narrow_5 : decode cX5_narrow 5 = .ok (.iconst (-1), 1) := by decide +kernel
theorem dX5_narrow_6 : decode cX5_narrow 6 = .ok (.istore_n 1, 1) := by decide +kernel
theorem dX5_narrow_7 : decode cX5_narrow 7 = .ok (.lconst 0, 1) := by decide +kernel
theorem dX5_narrow_8 : decode cX5_narrow 8 = .ok (.lstore_n 2, 1) := by decide +kernel
theorem dX5_narrow_9 : decode cX5_narrow 9 = .ok (.iconst 0, 1) := by decide +kernel
theorem dX5_narrow_10 : decode cX5_narrow 10 = .ok (.istore 4, 2) := by decide +kernel
theorem dX5_narrow_12 : decode cX5_narrow 12 = .ok (.iload 4, 2) := by decide +kernel
theorem dX5_narrow_14 : decode cX5_narrow 14 = .ok (.aload_n 0, 1) := by decide +kernel
theorem dX5_narrow_15 : decode cX5_narrow 15 = .ok (.getfield 63, 3) := by decide +kernel
theorem dX5_narrow_18 : decode cX5_narrow 18 = .ok (.if_icmp .ge 37, 3) := by decide +kernel
theorem dX5_narrow_21 : decode cX5_narrow 21 = .ok (.aload_n 0, 1) := by decide +kernel
theorem dX5_narrow_22 : decode cX5_narrow 22 = .ok (.iload 4, 2) := by decide +kernel
theorem dX5_narrow_24 : decode cX5_narrow 24 = .ok (.invokevirtual 146, 3) := by decide +kernel
theorem dX5_narrow_27 : decode cX5_narrow 27 = .ok (.lstore 5, 2) := by decide +kernel
theorem dX5_narrow_29 : decode cX5_narrow 29 = .ok (.iload_n 1, 1) := by decide +kernel
theorem dX5_narrow_30 : decode cX5_narrow 30 = .ok (.ifCond .lt 13, 3) := by decide +kernel
theorem dX5_narrow_33 : decode cX5_narrow 33 = .ok (.lload 5, 2) := by decide +kernel
theorem dX5_narrow_35 : decode cX5_narrow 35 = .ok (.lload_n 2, 1) := by decide +kernel
theorem dX5_narrow_36 : decode cX5_narrow 36 = .ok (.lcmp, 1) := by decide +kernel
theorem dX5_narrow_37 : decode cX5_narrow 37 = .ok (.ifCond .lt 6, 3) := by decide +kernel
theorem dX5_narrow_40 : decode cX5_narrow 40 = .ok (.goto 9, 3) := by decide +kernel
theorem dX5_narrow_43 : decode cX5_narrow 43 = .ok (.iload 4, 2) := by decide +kernel
theorem dX5_narrow_45 : decode cX5_narrow 45 = .ok (.istore_n 1, 1) := by decide +kernel
theorem dX5_narrow_46 : decode cX5_narrow 46 = .ok (.lload 5, 2) := by decide +kernel
theorem dX5_narrow_48 : decode cX5_narrow 48 = .ok (.lstore_n 2, 1) := by decide +kernel
theorem dX5_narrow_49 : decode cX5_narrow 49 = .ok (.iinc 4 1, 3) := by decide +kernel
theorem dX5_narrow_52 : decode cX5_narrow 52 = .ok (.goto (-40), 3) := by decide +kernel
theorem dX5_narrow_55 : decode cX5_narrow 55 = .ok (.iload_n 1, 1) := by decide +kernel
theorem dX5_narrow_56 : decode cX5_narrow 56 = .ok (.ireturn, 1) := by decide +kernel
theorem dX5_alone_0 : decode cX5_alone 0 = .ok (.aload_n 0, 1) := by decide +kernel
theorem dX5_alone_1 : decode cX5_alone 1 = .ok (.iconst 0, 1) := by decide +kernel
theorem dX5_alone_2 : decode cX5_alone 2 = .ok (.putfield 59, 3) := by decide +kernel
theorem dX5_alone_5 : decode cX5_alone 5 = .ok (.aload_n 0, 1) := by decide +kernel
theorem dX5_alone_6 : decode cX5_alone 6 = .ok (.aload_n 0, 1) := by decide +kernel
theorem dX5_alone_7 : decode cX5_alone 7 = .ok (.iload_n 1, 1) := by decide +kernel
theorem dX5_alone_8 : decode cX5_alone 8 = .ok (.invokevirtual 73, 3) := by decide +kernel
theorem dX5_alone_11 : decode cX5_alone 11 = .ok (.iconst 1, 1) := by decide +kernel
theorem dX5_alone_12 : decode cX5_alone 12 = .ok (.invokevirtual 80, 3) := by decide +kernel
theorem dX5_alone_15 : decode cX5_alone 15 = .ok (.ifCond .eq 5, 3) := by decide +kernel
theorem dX5_alone_18 : decode cX5_alone 18 = .ok (.iconst 0, 1) := by decide +kernel
theorem dX5_alone_19 : decode cX5_alone 19 = .ok (.ireturn, 1) := by decide +kernel
theorem dX5_alone_20 : decode cX5_alone 20 = .ok (.aload_n 0, 1) := by decide +kernel
theorem dX5_alone_21 : decode cX5_alone 21 = .ok (.getfield 22, 3) := by decide +kernel
theorem dX5_alone_24 : decode cX5_alone 24 = .ok (.iload_n 1, 1) := by decide +kernel
theorem dX5_alone_25 : decode cX5_alone 25 = .ok (.iaload, 1) := by decide +kernel
theorem dX5_alone_26 : decode cX5_alone 26 = .ok (.istore_n 2, 1) := by decide +kernel
theorem dX5_alone_27 : decode cX5_alone 27 = .ok (.iconst 5, 1) := by decide +kernel
theorem dX5_alone_28 : decode cX5_alone 28 = .ok (.iload_n 1, 1) := by decide +kernel
theorem dX5_alone_29 : decode cX5_alone 29 = .ok (.imul, 1) := by decide +kernel
theorem dX5_alone_30 : decode cX5_alone 30 = .ok (.istore_n 3, 1) := by decide +kernel
theorem dX5_alone_31 : decode cX5_alone 31 = .ok (.iload_n 3, 1) := by decide +kernel
theorem dX5_alone_32 : decode cX5_alone 32 = .ok (.iconst 5, 1) := by decide +kernel
theorem dX5_alone_33 : decode cX5_alone 33 = .ok (.iload_n 1, 1) := by decide +kernel
theorem dX5_alone_34 : decode cX5_alone 34 = .ok (.imul, 1) := by decide +kernel
theorem dX5_alone_35 : decode cX5_alone 35 = .ok (.aload_n 0, 1) := by decide +kernel
theorem dX5_alone_36 : decode cX5_alone 36 = .ok (.getfield 25, 3) := by decide +kernel
theorem dX5_alone_39 : decode cX5_alone 39 = .ok (.iload_n 1, 1) := by decide +kernel
theorem dX5_alone_40 : decode cX5_alone 40 = .ok (.iaload, 1) := by decide +kernel
theorem dX5_alone_41 : decode cX5_alone 41 = .ok (.iadd, 1) := by decide +kernel
theorem dX5_alone_42 : decode cX5_alone 42 = .ok (.if_icmp .ge 48, 3) := by decide +kernel
theorem dX5_alone_45 : decode cX5_alone 45 = .ok (.iload_n 2, 1) := by decide +kernel
theorem dX5_alone_46 : decode cX5_alone 46 = .ok (.aload_n 0, 1) := by decide +kernel
theorem dX5_alone_47 : decode cX5_alone 47 = .ok (.getfield 31, 3) := by decide +kernel
theorem dX5_alone_50 : decode cX5_alone 50 = .ok (.iload_n 3, 1) := by decide +kernel
theorem dX5_alone_51 : decode cX5_alone 51 = .ok (.iaload, 1) := by decide +kernel
theorem dX5_alone_52 : decode cX5_alone 52 = .ok (.iload_n 3, 1) := by decide +kernel
theorem dX5_alone_53 : decode cX5_alone 53 = .ok (.iconst 5, 1) := by decide +kernel
theorem dX5_alone_54 : decode cX5_alone 54 = .ok (.irem, 1) := by decide +kernel
theorem dX5_alone_55 : decode cX5_alone 55 = .ok (.iconst 1, 1) := by decide +kernel
theorem dX5_alone_56 : decode cX5_alone 56 = .ok (.iadd, 1) := by decide +kernel
theorem dX5_alone_57 : decode cX5_alone 57 = .ok (.aload_n 0, 1) := by decide +kernel
theorem dX5_alone_58 : decode cX5_alone 58 = .ok (.getfield 25, 3) := by decide +kernel
theorem dX5_alone_61 : decode cX5_alone 61 = .ok (.iload_n 1, 1) := by decide +kernel
theorem dX5_alone_62 : decode cX5_alone 62 = .ok (.iaload, 1) := by decide +kernel
theorem dX5_alone_63 : decode cX5_alone 63 = .ok (.if_icmp .ge 17, 3) := by decide +kernel
theorem dX5_alone_66 : decode cX5_alone 66 = .ok (.aload_n 0, 1) := by decide +kernel
theorem dX5_alone_67 : decode cX5_alone 67 = .ok (.getfield 16, 3) := by decide +kernel
theorem dX5_alone_70 : decode cX5_alone 70 = .ok (.aload_n 0, 1) := by decide +kernel
theorem dX5_alone_71 : decode cX5_alone 71 = .ok (.getfield 28, 3) := by decide +kernel
theorem dX5_alone_74 : decode cX5_alone 74 = .ok (.iload_n 3, 1) := by decide +kernel
theorem dX5_alone_75 : decode cX5_alone 75 = .ok (.iaload, 1) := by decide +kernel
theorem dX5_alone_76 : decode cX5_alone 76 = .ok (.iaload, 1) := by decide +kernel
theorem dX5_alone_77 : decode cX5_alone 77 = .ok (.goto 4, 3) := by decide +kernel
theorem dX5_alone_80 : decode cX5_alone 80 = .ok (.iconst 0, 1) := by decide +kernel
theorem dX5_alone_81 : decode cX5_alone 81 = .ok (.iadd, 1) := by decide +kernel
theorem dX5_alone_82 : decode cX5_alone 82 = .ok (.iadd, 1) := by decide +kernel
theorem dX5_alone_83 : decode cX5_alone 83 = .ok (.istore_n 2, 1) := by decide +kernel
theorem dX5_alone_84 : decode cX5_alone 84 = .ok (.iinc 3 1, 3) := by decide +kernel
theorem dX5_alone_87 : decode cX5_alone 87 = .ok (.goto (-56), 3) := by decide +kernel
theorem dX5_alone_90 : decode cX5_alone 90 = .ok (.iload_n 2, 1) := by decide +kernel
theorem dX5_alone_91 : decode cX5_alone 91 = .ok (.ireturn, 1) := by decide +kernel
theorem dX5_count_0 : decode cX5_count 0 = .ok (.aload_n 0, 1) := by decide +kernel
theorem dX5_count_1 : decode cX5_count 1 = .ok (.iconst 0, 1) := by decide +kernel
theorem dX5_count_2 : decode cX5_count 2 = .ok (.putfield 59, 3) := by decide +kernel
theorem dX5_count_5 : decode cX5_count 5 = .ok (.iconst 0, 1) := by decide +kernel
theorem dX5_count_6 : decode cX5_count 6 = .ok (.istore_n 2, 1) := by decide +kernel
theorem dX5_count_7 : decode cX5_count 7 = .ok (.iload_n 1, 1) := by decide +kernel
theorem dX5_count_8 : decode cX5_count 8 = .ok (.tableswitch 99 0 4 #[36, 41, 46, 51, 93], 36) := by decide +kernel
theorem dX5_count_44 : decode cX5_count 44 = .ok (.aload_n 0, 1) := by decide +kernel
theorem dX5_count_45 : decode cX5_count 45 = .ok (.getfield 63, 3) := by decide +kernel
theorem dX5_count_48 : decode cX5_count 48 = .ok (.ireturn, 1) := by decide +kernel
theorem dX5_count_49 : decode cX5_count 49 = .ok (.aload_n 0, 1) := by decide +kernel
theorem dX5_count_50 : decode cX5_count 50 = .ok (.getfield 70, 3) := by decide +kernel
theorem dX5_count_53 : decode cX5_count 53 = .ok (.ireturn, 1) := by decide +kernel
theorem dX5_count_54 : decode cX5_count 54 = .ok (.aload_n 0, 1) := by decide +kernel
theorem dX5_count_55 : decode cX5_count 55 = .ok (.invokevirtual 126, 3) := by decide +kernel
theorem dX5_count_58 : decode cX5_count 58 = .ok (.ireturn, 1) := by decide +kernel
theorem dX5_count_59 : decode cX5_count 59 = .ok (.iconst 0, 1) := by decide +kernel
theorem dX5_count_60 : decode cX5_count 60 = .ok (.istore_n 3, 1) := by decide +kernel
theorem dX5_count_61 : decode cX5_count 61 = .ok (.iload_n 3, 1) := by decide +kernel
theorem dX5_count_62 : decode cX5_count 62 = .ok (.sipush 300, 3) := by decide +kernel
theorem dX5_count_65 : decode cX5_count 65 = .ok (.if_icmp .ge 34, 3) := by decide +kernel
theorem dX5_count_68 : decode cX5_count 68 = .ok (.iload_n 2, 1) := by decide +kernel
theorem dX5_count_69 : decode cX5_count 69 = .ok (.aload_n 0, 1) := by decide +kernel
theorem dX5_count_70 : decode cX5_count 70 = .ok (.iload_n 3, 1) := by decide +kernel
theorem dX5_count_71 : decode cX5_count 71 = .ok (.invokevirtual 123, 3) := by decide +kernel
theorem dX5_count_74 : decode cX5_count 74 = .ok (.ifCond .eq 16, 3) := by decide +kernel
theorem dX5_count_77 : decode cX5_count 77 = .ok (.aload_n 0, 1) := by decide +kernel
theorem dX5_count_78 : decode cX5_count 78 = .ok (.getfield 34, 3) := by decide +kernel
theorem dX5_count_81 : decode cX5_count 81 = .ok (.iload_n 3, 1) := by decide +kernel
theorem dX5_count_82 : decode cX5_count 82 = .ok (.baload, 1) := by decide +kernel
theorem dX5_count_83 : decode cX5_count 83 = .ok (.ifCond .eq 7, 3) := by decide +kernel
theorem dX5_count_86 : decode cX5_count 86 = .ok (.iconst 1, 1) := by decide +kernel
theorem dX5_count_87 : decode cX5_count 87 = .ok (.goto 4, 3) := by decide +kernel
theorem dX5_count_90 : decode cX5_count 90 = .ok (.iconst 0, 1) := by decide +kernel
theorem dX5_count_91 : decode cX5_count 91 = .ok (.iadd, 1) := by decide +kernel
theorem dX5_count_92 : decode cX5_count 92 = .ok (.istore_n 2, 1) := by decide +kernel
theorem dX5_count_93 : decode cX5_count 93 = .ok (.iinc 3 1, 3) := by decide +kernel
theorem dX5_count_96 : decode cX5_count 96 = .ok (.goto (-35), 3) := by decide +kernel
theorem dX5_count_99 : decode cX5_count 99 = .ok (.iload_n 2, 1) := by decide +kernel
theorem dX5_count_100 : decode cX5_count 100 = .ok (.ireturn, 1) := by decide +kernel
theorem dX5_count_101 : decode cX5_count 101 = .ok (.aload_n 0, 1) := by decide +kernel
theorem dX5_count_102 : decode cX5_count 102 = .ok (.iconst (-1), 1) := by decide +kernel
theorem dX5_count_103 : decode cX5_count 103 = .ok (.invokevirtual 119, 3) := by decide +kernel
theorem dX5_count_106 : decode cX5_count 106 = .ok (.ireturn, 1) := by decide +kernel
theorem dX5_count_107 : decode cX5_count 107 = .ok (.iconst (-1), 1) := by decide +kernel
theorem dX5_count_108 : decode cX5_count 108 = .ok (.ireturn, 1) := by decide +kernel
theorem dJ9_max_7cf53_0 : decode cJ9_max_7cf53 0 = .ok (.iload_n 0, 1) := by decide +kernel
theorem dJ9_max_7cf53_1 : decode cJ9_max_7cf53 1 = .ok (.iload_n 1, 1) := by decide +kernel
theorem dJ9_max_7cf53_2 : decode cJ9_max_7cf53 2 = .ok (.if_icmp .lt 7, 3) := by decide +kernel
theorem dJ9_max_7cf53_5 : decode cJ9_max_7cf53 5 = .ok (.iload_n 0, 1) := by decide +kernel
theorem dJ9_max_7cf53_6 : decode cJ9_max_7cf53 6 = .ok (.goto 4, 3) := by decide +kernel
theorem dJ9_max_7cf53_9 : decode cJ9_max_7cf53 9 = .ok (.iload_n 1, 1) := by decide +kernel
theorem dJ9_max_7cf53_10 : decode cJ9_max_7cf53 10 = .ok (.ireturn, 1) := by decide +kernel
theorem dJ9_max_f86c9_0 : decode cJ9_max_f86c9 0 = .ok (.lload_n 0, 1) := by decide +kernel
theorem dJ9_max_f86c9_1 : decode cJ9_max_f86c9 1 = .ok (.lload_n 2, 1) := by decide +kernel
theorem dJ9_max_f86c9_2 : decode cJ9_max_f86c9 2 = .ok (.lcmp, 1) := by decide +kernel
theorem dJ9_max_f86c9_3 : decode cJ9_max_f86c9 3 = .ok (.ifCond .lt 7, 3) := by decide +kernel
theorem dJ9_max_f86c9_6 : decode cJ9_max_f86c9 6 = .ok (.lload_n 0, 1) := by decide +kernel
theorem dJ9_max_f86c9_7 : decode cJ9_max_f86c9 7 = .ok (.goto 4, 3) := by decide +kernel
theorem dJ9_max_f86c9_10 : decode cJ9_max_f86c9 10 = .ok (.lload_n 2, 1) := by decide +kernel
theorem dJ9_max_f86c9_11 : decode cJ9_max_f86c9 11 = .ok (.lreturn, 1) := by decide +kernel
theorem dJ9_min_7cf53_0 : decode cJ9_min_7cf53 0 = .ok (.iload_n 0, 1) := by decide +kernel
theorem dJ9_min_7cf53_1 : decode cJ9_min_7cf53 1 = .ok (.iload_n 1, 1) := by decide +kernel
theorem dJ9_min_7cf53_2 : decode cJ9_min_7cf53 2 = .ok (.if_icmp .gt 7, 3) := by decide +kernel
theorem dJ9_min_7cf53_5 : decode cJ9_min_7cf53 5 = .ok (.iload_n 0, 1) := by decide +kernel
theorem dJ9_min_7cf53_6 : decode cJ9_min_7cf53 6 = .ok (.goto 4, 3) := by decide +kernel
theorem dJ9_min_7cf53_9 : decode cJ9_min_7cf53 9 = .ok (.iload_n 1, 1) := by decide +kernel
theorem dJ9_min_7cf53_10 : decode cJ9_min_7cf53 10 = .ok (.ireturn, 1) := by decide +kernel
theorem dJ7_fill_53178_0 : decode cJ7_fill_53178 0 = .ok (.iconst 0, 1) := by decide +kernel
theorem dJ7_fill_53178_1 : decode cJ7_fill_53178 1 = .ok (.istore_n 2, 1) := by decide +kernel
theorem dJ7_fill_53178_2 : decode cJ7_fill_53178 2 = .ok (.aload_n 0, 1) := by decide +kernel
theorem dJ7_fill_53178_3 : decode cJ7_fill_53178 3 = .ok (.arraylength, 1) := by decide +kernel
theorem dJ7_fill_53178_4 : decode cJ7_fill_53178 4 = .ok (.istore_n 3, 1) := by decide +kernel
theorem dJ7_fill_53178_5 : decode cJ7_fill_53178 5 = .ok (.iload_n 2, 1) := by decide +kernel
theorem dJ7_fill_53178_6 : decode cJ7_fill_53178 6 = .ok (.iload_n 3, 1) := by decide +kernel
theorem dJ7_fill_53178_7 : decode cJ7_fill_53178 7 = .ok (.if_icmp .ge 13, 3) := by decide +kernel
theorem dJ7_fill_53178_10 : decode cJ7_fill_53178 10 = .ok (.aload_n 0, 1) := by decide +kernel
theorem dJ7_fill_53178_11 : decode cJ7_fill_53178 11 = .ok (.iload_n 2, 1) := by decide +kernel
theorem dJ7_fill_53178_12 : decode cJ7_fill_53178 12 = .ok (.iload_n 1, 1) := by decide +kernel
theorem dJ7_fill_53178_13 : decode cJ7_fill_53178 13 = .ok (.iastore, 1) := by decide +kernel
theorem dJ7_fill_53178_14 : decode cJ7_fill_53178 14 = .ok (.iinc 2 1, 3) := by decide +kernel
theorem dJ7_fill_53178_17 : decode cJ7_fill_53178 17 = .ok (.goto (-12), 3) := by decide +kernel
theorem dJ7_fill_53178_20 : decode cJ7_fill_53178 20 = .ok (.return_, 1) := by decide +kernel
end
