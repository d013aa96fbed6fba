section
-- ===== PART A: goes FIRST, ahead of the names: the tables' words, and 'selects' of the private methods out of them =====
/-- a private method of a class that the tables say can be made, by its rows of tables_1 -/
def lw_okq (q : MethodName × Nat) : Prop := (q.1.cls ≠ "java/lang/invoke/MethodHandle" ∧ q.1.cls ≠ "java/lang/invoke/VarHandle") ∧ Cond.instantiable q.1.cls q.2 ∈ tables_1 ∧ Cond.privateMethod q.1 ∈ tables_1 ∧ Cond.instanceMethod q.1 ∈ tables_1
theorem lw_p0 : lw_okq (⟨"SkyBulletin$Reader", "takeToken", "()Z"⟩, 8) := ⟨⟨by decide +kernel, by decide +kernel⟩, List.mem_of_getElem? (i := 149) (by decide +kernel), List.mem_of_getElem? (i := 232) (by decide +kernel), List.mem_of_getElem? (i := 233) (by decide +kernel)⟩
theorem lw_p1 : lw_okq (⟨"SkyBulletin$Reader", "takeHead", "()Z"⟩, 8) := ⟨⟨by decide +kernel, by decide +kernel⟩, List.mem_of_getElem? (i := 149) (by decide +kernel), List.mem_of_getElem? (i := 236) (by decide +kernel), List.mem_of_getElem? (i := 237) (by decide +kernel)⟩
theorem lw_p2 : lw_okq (⟨"SkyBulletin$Reader", "takeWord", "(Ljava/lang/String;)Z"⟩, 8) := ⟨⟨by decide +kernel, by decide +kernel⟩, List.mem_of_getElem? (i := 149) (by decide +kernel), List.mem_of_getElem? (i := 241) (by decide +kernel), List.mem_of_getElem? (i := 242) (by decide +kernel)⟩
theorem lw_p3 : lw_okq (⟨"SkyBulletin$Reader", "holds", "(ILjava/lang/String;)Z"⟩, 8) := ⟨⟨by decide +kernel, by decide +kernel⟩, List.mem_of_getElem? (i := 149) (by decide +kernel), List.mem_of_getElem? (i := 255) (by decide +kernel), List.mem_of_getElem? (i := 256) (by decide +kernel)⟩
theorem lw_p4 : lw_okq (⟨"SkyBulletin$Reader", "takeStation", "()Z"⟩, 8) := ⟨⟨by decide +kernel, by decide +kernel⟩, List.mem_of_getElem? (i := 149) (by decide +kernel), List.mem_of_getElem? (i := 298) (by decide +kernel), List.mem_of_getElem? (i := 299) (by decide +kernel)⟩
theorem lw_p5 : lw_okq (⟨"SkyBulletin$Reader", "takeIssue", "()Z"⟩, 8) := ⟨⟨by decide +kernel, by decide +kernel⟩, List.mem_of_getElem? (i := 149) (by decide +kernel), List.mem_of_getElem? (i := 302) (by decide +kernel), List.mem_of_getElem? (i := 303) (by decide +kernel)⟩
theorem lw_p6 : lw_okq (⟨"SkyBulletin$Reader", "timeAt", "(I)I"⟩, 8) := ⟨⟨by decide +kernel, by decide +kernel⟩, List.mem_of_getElem? (i := 149) (by decide +kernel), List.mem_of_getElem? (i := 306) (by decide +kernel), List.mem_of_getElem? (i := 307) (by decide +kernel)⟩
theorem lw_p7 : lw_okq (⟨"SkyBulletin$Reader", "hourAt", "(II)I"⟩, 8) := ⟨⟨by decide +kernel, by decide +kernel⟩, List.mem_of_getElem? (i := 149) (by decide +kernel), List.mem_of_getElem? (i := 310) (by decide +kernel), List.mem_of_getElem? (i := 311) (by decide +kernel)⟩
theorem lw_p8 : lw_okq (⟨"SkyBulletin$Reader", "digits", "(II)I"⟩, 8) := ⟨⟨by decide +kernel, by decide +kernel⟩, List.mem_of_getElem? (i := 149) (by decide +kernel), List.mem_of_getElem? (i := 314) (by decide +kernel), List.mem_of_getElem? (i := 315) (by decide +kernel)⟩
theorem lw_p9 : lw_okq (⟨"SkyBulletin$Reader", "takeReport", "()Z"⟩, 8) := ⟨⟨by decide +kernel, by decide +kernel⟩, List.mem_of_getElem? (i := 149) (by decide +kernel), List.mem_of_getElem? (i := 318) (by decide +kernel), List.mem_of_getElem? (i := 319) (by decide +kernel)⟩
theorem lw_p10 : lw_okq (⟨"SkyBulletin$Reader", "takeWhole", "(LSkyBulletin$Group;)Z"⟩, 8) := ⟨⟨by decide +kernel, by decide +kernel⟩, List.mem_of_getElem? (i := 149) (by decide +kernel), List.mem_of_getElem? (i := 322) (by decide +kernel), List.mem_of_getElem? (i := 323) (by decide +kernel)⟩
theorem lw_p11 : lw_okq (⟨"SkyBulletin$Reader", "takeWind", "(LSkyBulletin$Group;)Z"⟩, 8) := ⟨⟨by decide +kernel, by decide +kernel⟩, List.mem_of_getElem? (i := 149) (by decide +kernel), List.mem_of_getElem? (i := 326) (by decide +kernel), List.mem_of_getElem? (i := 327) (by decide +kernel)⟩
theorem lw_p12 : lw_okq (⟨"SkyBulletin$Reader", "takeCavok", "(LSkyBulletin$Group;)Z"⟩, 8) := ⟨⟨by decide +kernel, by decide +kernel⟩, List.mem_of_getElem? (i := 149) (by decide +kernel), List.mem_of_getElem? (i := 332) (by decide +kernel), List.mem_of_getElem? (i := 333) (by decide +kernel)⟩
theorem lw_p13 : lw_okq (⟨"SkyBulletin$Reader", "takeVisibility", "(LSkyBulletin$Group;)Z"⟩, 8) := ⟨⟨by decide +kernel, by decide +kernel⟩, List.mem_of_getElem? (i := 149) (by decide +kernel), List.mem_of_getElem? (i := 337) (by decide +kernel), List.mem_of_getElem? (i := 338) (by decide +kernel)⟩
theorem lw_p14 : lw_okq (⟨"SkyBulletin$Reader", "takeWeathers", "(LSkyBulletin$Group;)V"⟩, 8) := ⟨⟨by decide +kernel, by decide +kernel⟩, List.mem_of_getElem? (i := 149) (by decide +kernel), List.mem_of_getElem? (i := 341) (by decide +kernel), List.mem_of_getElem? (i := 342) (by decide +kernel)⟩
theorem lw_p15 : lw_okq (⟨"SkyBulletin$Reader", "weatherNumber", "()I"⟩, 8) := ⟨⟨by decide +kernel, by decide +kernel⟩, List.mem_of_getElem? (i := 149) (by decide +kernel), List.mem_of_getElem? (i := 345) (by decide +kernel), List.mem_of_getElem? (i := 346) (by decide +kernel)⟩
def lw_privs_1 : List (MethodName × Nat) := [(⟨"SkyBulletin$Reader", "takeToken", "()Z"⟩, 8), (⟨"SkyBulletin$Reader", "takeHead", "()Z"⟩, 8), (⟨"SkyBulletin$Reader", "takeWord", "(Ljava/lang/String;)Z"⟩, 8), (⟨"SkyBulletin$Reader", "holds", "(ILjava/lang/String;)Z"⟩, 8), (⟨"SkyBulletin$Reader", "takeStation", "()Z"⟩, 8), (⟨"SkyBulletin$Reader", "takeIssue", "()Z"⟩, 8), (⟨"SkyBulletin$Reader", "timeAt", "(I)I"⟩, 8), (⟨"SkyBulletin$Reader", "hourAt", "(II)I"⟩, 8), (⟨"SkyBulletin$Reader", "digits", "(II)I"⟩, 8), (⟨"SkyBulletin$Reader", "takeReport", "()Z"⟩, 8), (⟨"SkyBulletin$Reader", "takeWhole", "(LSkyBulletin$Group;)Z"⟩, 8), (⟨"SkyBulletin$Reader", "takeWind", "(LSkyBulletin$Group;)Z"⟩, 8), (⟨"SkyBulletin$Reader", "takeCavok", "(LSkyBulletin$Group;)Z"⟩, 8), (⟨"SkyBulletin$Reader", "takeVisibility", "(LSkyBulletin$Group;)Z"⟩, 8), (⟨"SkyBulletin$Reader", "takeWeathers", "(LSkyBulletin$Group;)V"⟩, 8), (⟨"SkyBulletin$Reader", "weatherNumber", "()I"⟩, 8)]
theorem lw_r1 : ∀ q ∈ lw_privs_1, lw_okq q := List.forall_mem_cons.mpr ⟨lw_p0, List.forall_mem_cons.mpr ⟨lw_p1, List.forall_mem_cons.mpr ⟨lw_p2, List.forall_mem_cons.mpr ⟨lw_p3, List.forall_mem_cons.mpr ⟨lw_p4, List.forall_mem_cons.mpr ⟨lw_p5, List.forall_mem_cons.mpr ⟨lw_p6, List.forall_mem_cons.mpr ⟨lw_p7, List.forall_mem_cons.mpr ⟨lw_p8, List.forall_mem_cons.mpr ⟨lw_p9, List.forall_mem_cons.mpr ⟨lw_p10, List.forall_mem_cons.mpr ⟨lw_p11, List.forall_mem_cons.mpr ⟨lw_p12, List.forall_mem_cons.mpr ⟨lw_p13, List.forall_mem_cons.mpr ⟨lw_p14, List.forall_mem_cons.mpr ⟨lw_p15, fun _ h => absurd h List.not_mem_nil⟩⟩⟩⟩⟩⟩⟩⟩⟩⟩⟩⟩⟩⟩⟩⟩
theorem lw_p16 : lw_okq (⟨"SkyBulletin$Reader", "signNumber", "()I"⟩, 8) := ⟨⟨by decide +kernel, by decide +kernel⟩, List.mem_of_getElem? (i := 149) (by decide +kernel), List.mem_of_getElem? (i := 349) (by decide +kernel), List.mem_of_getElem? (i := 350) (by decide +kernel)⟩
theorem lw_p17 : lw_okq (⟨"SkyBulletin$Reader", "pairAt", "(ILjava/lang/String;)I"⟩, 8) := ⟨⟨by decide +kernel, by decide +kernel⟩, List.mem_of_getElem? (i := 149) (by decide +kernel), List.mem_of_getElem? (i := 354) (by decide +kernel), List.mem_of_getElem? (i := 355) (by decide +kernel)⟩
theorem lw_p18 : lw_okq (⟨"SkyBulletin$Reader", "takeClouds", "(LSkyBulletin$Group;)Z"⟩, 8) := ⟨⟨by decide +kernel, by decide +kernel⟩, List.mem_of_getElem? (i := 149) (by decide +kernel), List.mem_of_getElem? (i := 366) (by decide +kernel), List.mem_of_getElem? (i := 367) (by decide +kernel)⟩
theorem lw_p19 : lw_okq (⟨"SkyBulletin$Reader", "layerNumber", "()I"⟩, 8) := ⟨⟨by decide +kernel, by decide +kernel⟩, List.mem_of_getElem? (i := 149) (by decide +kernel), List.mem_of_getElem? (i := 376) (by decide +kernel), List.mem_of_getElem? (i := 377) (by decide +kernel)⟩
theorem lw_p20 : lw_okq (⟨"SkyBulletin$Reader", "takeTemperatures", "()Z"⟩, 8) := ⟨⟨by decide +kernel, by decide +kernel⟩, List.mem_of_getElem? (i := 149) (by decide +kernel), List.mem_of_getElem? (i := 386) (by decide +kernel), List.mem_of_getElem? (i := 387) (by decide +kernel)⟩
theorem lw_p21 : lw_okq (⟨"SkyBulletin$Reader", "degreesAt", "(I)I"⟩, 8) := ⟨⟨by decide +kernel, by decide +kernel⟩, List.mem_of_getElem? (i := 149) (by decide +kernel), List.mem_of_getElem? (i := 390) (by decide +kernel), List.mem_of_getElem? (i := 391) (by decide +kernel)⟩
theorem lw_p22 : lw_okq (⟨"SkyBulletin$Reader", "takePressure", "()Z"⟩, 8) := ⟨⟨by decide +kernel, by decide +kernel⟩, List.mem_of_getElem? (i := 149) (by decide +kernel), List.mem_of_getElem? (i := 395) (by decide +kernel), List.mem_of_getElem? (i := 396) (by decide +kernel)⟩
theorem lw_p23 : lw_okq (⟨"SkyBulletin$Reader", "takeForecast", "()Z"⟩, 8) := ⟨⟨by decide +kernel, by decide +kernel⟩, List.mem_of_getElem? (i := 149) (by decide +kernel), List.mem_of_getElem? (i := 399) (by decide +kernel), List.mem_of_getElem? (i := 400) (by decide +kernel)⟩
theorem lw_p24 : lw_okq (⟨"SkyBulletin$Reader", "takeForecastPeriod", "(LSkyBulletin$Group;)Z"⟩, 8) := ⟨⟨by decide +kernel, by decide +kernel⟩, List.mem_of_getElem? (i := 149) (by decide +kernel), List.mem_of_getElem? (i := 403) (by decide +kernel), List.mem_of_getElem? (i := 404) (by decide +kernel)⟩
theorem lw_p25 : lw_okq (⟨"SkyBulletin$Reader", "findPeriod", "(LSkyBulletin$Group;I)Z"⟩, 8) := ⟨⟨by decide +kernel, by decide +kernel⟩, List.mem_of_getElem? (i := 149) (by decide +kernel), List.mem_of_getElem? (i := 407) (by decide +kernel), List.mem_of_getElem? (i := 408) (by decide +kernel)⟩
theorem lw_p26 : lw_okq (⟨"SkyBulletin$Reader", "takeFromTime", "(LSkyBulletin$Group;)Z"⟩, 8) := ⟨⟨by decide +kernel, by decide +kernel⟩, List.mem_of_getElem? (i := 149) (by decide +kernel), List.mem_of_getElem? (i := 412) (by decide +kernel), List.mem_of_getElem? (i := 413) (by decide +kernel)⟩
theorem lw_p27 : lw_okq (⟨"SkyBulletin$Reader", "takeChangeName", "(LSkyBulletin$Group;)Z"⟩, 8) := ⟨⟨by decide +kernel, by decide +kernel⟩, List.mem_of_getElem? (i := 149) (by decide +kernel), List.mem_of_getElem? (i := 417) (by decide +kernel), List.mem_of_getElem? (i := 418) (by decide +kernel)⟩
theorem lw_p28 : lw_okq (⟨"SkyBulletin$Reader", "takeChangePeriod", "(LSkyBulletin$Group;)Z"⟩, 8) := ⟨⟨by decide +kernel, by decide +kernel⟩, List.mem_of_getElem? (i := 149) (by decide +kernel), List.mem_of_getElem? (i := 425) (by decide +kernel), List.mem_of_getElem? (i := 426) (by decide +kernel)⟩
theorem lw_p29 : lw_okq (⟨"SkyBulletin$Reader", "takeParts", "(LSkyBulletin$Group;)Z"⟩, 8) := ⟨⟨by decide +kernel, by decide +kernel⟩, List.mem_of_getElem? (i := 149) (by decide +kernel), List.mem_of_getElem? (i := 429) (by decide +kernel), List.mem_of_getElem? (i := 430) (by decide +kernel)⟩
theorem lw_p30 : lw_okq (⟨"SkyBulletinModel", "split", "()V"⟩, 32) := ⟨⟨by decide +kernel, by decide +kernel⟩, List.mem_of_getElem? (i := 588) (by decide +kernel), List.mem_of_getElem? (i := 702) (by decide +kernel), List.mem_of_getElem? (i := 703) (by decide +kernel)⟩
theorem lw_p31 : lw_okq (⟨"SkyBulletinModel", "blank", "()V"⟩, 32) := ⟨⟨by decide +kernel, by decide +kernel⟩, List.mem_of_getElem? (i := 588) (by decide +kernel), List.mem_of_getElem? (i := 706) (by decide +kernel), List.mem_of_getElem? (i := 707) (by decide +kernel)⟩
def lw_privs_2 : List (MethodName × Nat) := [(⟨"SkyBulletin$Reader", "signNumber", "()I"⟩, 8), (⟨"SkyBulletin$Reader", "pairAt", "(ILjava/lang/String;)I"⟩, 8), (⟨"SkyBulletin$Reader", "takeClouds", "(LSkyBulletin$Group;)Z"⟩, 8), (⟨"SkyBulletin$Reader", "layerNumber", "()I"⟩, 8), (⟨"SkyBulletin$Reader", "takeTemperatures", "()Z"⟩, 8), (⟨"SkyBulletin$Reader", "degreesAt", "(I)I"⟩, 8), (⟨"SkyBulletin$Reader", "takePressure", "()Z"⟩, 8), (⟨"SkyBulletin$Reader", "takeForecast", "()Z"⟩, 8), (⟨"SkyBulletin$Reader", "takeForecastPeriod", "(LSkyBulletin$Group;)Z"⟩, 8), (⟨"SkyBulletin$Reader", "findPeriod", "(LSkyBulletin$Group;I)Z"⟩, 8), (⟨"SkyBulletin$Reader", "takeFromTime", "(LSkyBulletin$Group;)Z"⟩, 8), (⟨"SkyBulletin$Reader", "takeChangeName", "(LSkyBulletin$Group;)Z"⟩, 8), (⟨"SkyBulletin$Reader", "takeChangePeriod", "(LSkyBulletin$Group;)Z"⟩, 8), (⟨"SkyBulletin$Reader", "takeParts", "(LSkyBulletin$Group;)Z"⟩, 8), (⟨"SkyBulletinModel", "split", "()V"⟩, 32), (⟨"SkyBulletinModel", "blank", "()V"⟩, 32)]
theorem lw_r2 : ∀ q ∈ lw_privs_2, lw_okq q := List.forall_mem_cons.mpr ⟨lw_p16, List.forall_mem_cons.mpr ⟨lw_p17, List.forall_mem_cons.mpr ⟨lw_p18, List.forall_mem_cons.mpr ⟨lw_p19, List.forall_mem_cons.mpr ⟨lw_p20, List.forall_mem_cons.mpr ⟨lw_p21, List.forall_mem_cons.mpr ⟨lw_p22, List.forall_mem_cons.mpr ⟨lw_p23, List.forall_mem_cons.mpr ⟨lw_p24, List.forall_mem_cons.mpr ⟨lw_p25, List.forall_mem_cons.mpr ⟨lw_p26, List.forall_mem_cons.mpr ⟨lw_p27, List.forall_mem_cons.mpr ⟨lw_p28, List.forall_mem_cons.mpr ⟨lw_p29, List.forall_mem_cons.mpr ⟨lw_p30, List.forall_mem_cons.mpr ⟨lw_p31, fun _ h => absurd h List.not_mem_nil⟩⟩⟩⟩⟩⟩⟩⟩⟩⟩⟩⟩⟩⟩⟩⟩
theorem lw_p32 : lw_okq (⟨"SkyBulletinModel", "word", "()J"⟩, 32) := ⟨⟨by decide +kernel, by decide +kernel⟩, List.mem_of_getElem? (i := 588) (by decide +kernel), List.mem_of_getElem? (i := 710) (by decide +kernel), List.mem_of_getElem? (i := 711) (by decide +kernel)⟩
theorem lw_p33 : lw_okq (⟨"SkyBulletinModel", "size", "()I"⟩, 32) := ⟨⟨by decide +kernel, by decide +kernel⟩, List.mem_of_getElem? (i := 588) (by decide +kernel), List.mem_of_getElem? (i := 714) (by decide +kernel), List.mem_of_getElem? (i := 715) (by decide +kernel)⟩
theorem lw_p34 : lw_okq (⟨"SkyBulletinModel", "sign", "(I)I"⟩, 32) := ⟨⟨by decide +kernel, by decide +kernel⟩, List.mem_of_getElem? (i := 588) (by decide +kernel), List.mem_of_getElem? (i := 718) (by decide +kernel), List.mem_of_getElem? (i := 719) (by decide +kernel)⟩
theorem lw_p35 : lw_okq (⟨"SkyBulletinModel", "report", "()Z"⟩, 32) := ⟨⟨by decide +kernel, by decide +kernel⟩, List.mem_of_getElem? (i := 588) (by decide +kernel), List.mem_of_getElem? (i := 724) (by decide +kernel), List.mem_of_getElem? (i := 725) (by decide +kernel)⟩
theorem lw_p36 : lw_okq (⟨"SkyBulletinModel", "station", "()Z"⟩, 32) := ⟨⟨by decide +kernel, by decide +kernel⟩, List.mem_of_getElem? (i := 588) (by decide +kernel), List.mem_of_getElem? (i := 728) (by decide +kernel), List.mem_of_getElem? (i := 729) (by decide +kernel)⟩
theorem lw_p37 : lw_okq (⟨"SkyBulletinModel", "issued", "()Z"⟩, 32) := ⟨⟨by decide +kernel, by decide +kernel⟩, List.mem_of_getElem? (i := 588) (by decide +kernel), List.mem_of_getElem? (i := 732) (by decide +kernel), List.mem_of_getElem? (i := 733) (by decide +kernel)⟩
theorem lw_p38 : lw_okq (⟨"SkyBulletinModel", "number", "(II)I"⟩, 32) := ⟨⟨by decide +kernel, by decide +kernel⟩, List.mem_of_getElem? (i := 588) (by decide +kernel), List.mem_of_getElem? (i := 736) (by decide +kernel), List.mem_of_getElem? (i := 737) (by decide +kernel)⟩
theorem lw_p39 : lw_okq (⟨"SkyBulletinModel", "isDay", "(I)Z"⟩, 32) := ⟨⟨by decide +kernel, by decide +kernel⟩, List.mem_of_getElem? (i := 588) (by decide +kernel), List.mem_of_getElem? (i := 740) (by decide +kernel), List.mem_of_getElem? (i := 741) (by decide +kernel)⟩
theorem lw_p40 : lw_okq (⟨"SkyBulletinModel", "isIn", "(II)Z"⟩, 32) := ⟨⟨by decide +kernel, by decide +kernel⟩, List.mem_of_getElem? (i := 588) (by decide +kernel), List.mem_of_getElem? (i := 744) (by decide +kernel), List.mem_of_getElem? (i := 745) (by decide +kernel)⟩
theorem lw_p41 : lw_okq (⟨"SkyBulletinModel", "wind", "(I)Z"⟩, 32) := ⟨⟨by decide +kernel, by decide +kernel⟩, List.mem_of_getElem? (i := 588) (by decide +kernel), List.mem_of_getElem? (i := 748) (by decide +kernel), List.mem_of_getElem? (i := 749) (by decide +kernel)⟩
theorem lw_p42 : lw_okq (⟨"SkyBulletinModel", "sky", "(I)Z"⟩, 32) := ⟨⟨by decide +kernel, by decide +kernel⟩, List.mem_of_getElem? (i := 588) (by decide +kernel), List.mem_of_getElem? (i := 752) (by decide +kernel), List.mem_of_getElem? (i := 753) (by decide +kernel)⟩
theorem lw_p43 : lw_okq (⟨"SkyBulletinModel", "clear", "(I)Z"⟩, 32) := ⟨⟨by decide +kernel, by decide +kernel⟩, List.mem_of_getElem? (i := 588) (by decide +kernel), List.mem_of_getElem? (i := 756) (by decide +kernel), List.mem_of_getElem? (i := 757) (by decide +kernel)⟩
theorem lw_p44 : lw_okq (⟨"SkyBulletinModel", "visibility", "(I)Z"⟩, 32) := ⟨⟨by decide +kernel, by decide +kernel⟩, List.mem_of_getElem? (i := 588) (by decide +kernel), List.mem_of_getElem? (i := 761) (by decide +kernel), List.mem_of_getElem? (i := 762) (by decide +kernel)⟩
theorem lw_p45 : lw_okq (⟨"SkyBulletinModel", "weatherOf", "(I)I"⟩, 32) := ⟨⟨by decide +kernel, by decide +kernel⟩, List.mem_of_getElem? (i := 588) (by decide +kernel), List.mem_of_getElem? (i := 765) (by decide +kernel), List.mem_of_getElem? (i := 766) (by decide +kernel)⟩
theorem lw_p46 : lw_okq (⟨"SkyBulletinModel", "weatherHere", "()I"⟩, 32) := ⟨⟨by decide +kernel, by decide +kernel⟩, List.mem_of_getElem? (i := 588) (by decide +kernel), List.mem_of_getElem? (i := 769) (by decide +kernel), List.mem_of_getElem? (i := 770) (by decide +kernel)⟩
theorem lw_p47 : lw_okq (⟨"SkyBulletinModel", "pair", "(I)I"⟩, 32) := ⟨⟨by decide +kernel, by decide +kernel⟩, List.mem_of_getElem? (i := 588) (by decide +kernel), List.mem_of_getElem? (i := 773) (by decide +kernel), List.mem_of_getElem? (i := 774) (by decide +kernel)⟩
def lw_privs_3 : List (MethodName × Nat) := [(⟨"SkyBulletinModel", "word", "()J"⟩, 32), (⟨"SkyBulletinModel", "size", "()I"⟩, 32), (⟨"SkyBulletinModel", "sign", "(I)I"⟩, 32), (⟨"SkyBulletinModel", "report", "()Z"⟩, 32), (⟨"SkyBulletinModel", "station", "()Z"⟩, 32), (⟨"SkyBulletinModel", "issued", "()Z"⟩, 32), (⟨"SkyBulletinModel", "number", "(II)I"⟩, 32), (⟨"SkyBulletinModel", "isDay", "(I)Z"⟩, 32), (⟨"SkyBulletinModel", "isIn", "(II)Z"⟩, 32), (⟨"SkyBulletinModel", "wind", "(I)Z"⟩, 32), (⟨"SkyBulletinModel", "sky", "(I)Z"⟩, 32), (⟨"SkyBulletinModel", "clear", "(I)Z"⟩, 32), (⟨"SkyBulletinModel", "visibility", "(I)Z"⟩, 32), (⟨"SkyBulletinModel", "weatherOf", "(I)I"⟩, 32), (⟨"SkyBulletinModel", "weatherHere", "()I"⟩, 32), (⟨"SkyBulletinModel", "pair", "(I)I"⟩, 32)]
theorem lw_r3 : ∀ q ∈ lw_privs_3, lw_okq q := List.forall_mem_cons.mpr ⟨lw_p32, List.forall_mem_cons.mpr ⟨lw_p33, List.forall_mem_cons.mpr ⟨lw_p34, List.forall_mem_cons.mpr ⟨lw_p35, List.forall_mem_cons.mpr ⟨lw_p36, List.forall_mem_cons.mpr ⟨lw_p37, List.forall_mem_cons.mpr ⟨lw_p38, List.forall_mem_cons.mpr ⟨lw_p39, List.forall_mem_cons.mpr ⟨lw_p40, List.forall_mem_cons.mpr ⟨lw_p41, List.forall_mem_cons.mpr ⟨lw_p42, List.forall_mem_cons.mpr ⟨lw_p43, List.forall_mem_cons.mpr ⟨lw_p44, List.forall_mem_cons.mpr ⟨lw_p45, List.forall_mem_cons.mpr ⟨lw_p46, List.forall_mem_cons.mpr ⟨lw_p47, fun _ h => absurd h List.not_mem_nil⟩⟩⟩⟩⟩⟩⟩⟩⟩⟩⟩⟩⟩⟩⟩⟩
theorem lw_p48 : lw_okq (⟨"SkyBulletinModel", "cloudsOf", "(I)Z"⟩, 32) := ⟨⟨by decide +kernel, by decide +kernel⟩, List.mem_of_getElem? (i := 588) (by decide +kernel), List.mem_of_getElem? (i := 786) (by decide +kernel), List.mem_of_getElem? (i := 787) (by decide +kernel)⟩
theorem lw_p49 : lw_okq (⟨"SkyBulletinModel", "cloudHere", "()I"⟩, 32) := ⟨⟨by decide +kernel, by decide +kernel⟩, List.mem_of_getElem? (i := 588) (by decide +kernel), List.mem_of_getElem? (i := 791) (by decide +kernel), List.mem_of_getElem? (i := 792) (by decide +kernel)⟩
theorem lw_p50 : lw_okq (⟨"SkyBulletinModel", "ends", "()Z"⟩, 32) := ⟨⟨by decide +kernel, by decide +kernel⟩, List.mem_of_getElem? (i := 588) (by decide +kernel), List.mem_of_getElem? (i := 799) (by decide +kernel), List.mem_of_getElem? (i := 800) (by decide +kernel)⟩
theorem lw_p51 : lw_okq (⟨"SkyBulletinModel", "forecast", "()Z"⟩, 32) := ⟨⟨by decide +kernel, by decide +kernel⟩, List.mem_of_getElem? (i := 588) (by decide +kernel), List.mem_of_getElem? (i := 803) (by decide +kernel), List.mem_of_getElem? (i := 804) (by decide +kernel)⟩
theorem lw_p52 : lw_okq (⟨"SkyBulletinModel", "period", "(I)Z"⟩, 32) := ⟨⟨by decide +kernel, by decide +kernel⟩, List.mem_of_getElem? (i := 588) (by decide +kernel), List.mem_of_getElem? (i := 807) (by decide +kernel), List.mem_of_getElem? (i := 808) (by decide +kernel)⟩
theorem lw_p53 : lw_okq (⟨"SkyBulletinModel", "isPeriod", "()Z"⟩, 32) := ⟨⟨by decide +kernel, by decide +kernel⟩, List.mem_of_getElem? (i := 588) (by decide +kernel), List.mem_of_getElem? (i := 811) (by decide +kernel), List.mem_of_getElem? (i := 812) (by decide +kernel)⟩
theorem lw_p54 : lw_okq (⟨"SkyBulletinModel", "change", "(II)Z"⟩, 32) := ⟨⟨by decide +kernel, by decide +kernel⟩, List.mem_of_getElem? (i := 588) (by decide +kernel), List.mem_of_getElem? (i := 815) (by decide +kernel), List.mem_of_getElem? (i := 816) (by decide +kernel)⟩
theorem lw_p55 : lw_okq (⟨"SkyBulletinModel", "since", "(II)Z"⟩, 32) := ⟨⟨by decide +kernel, by decide +kernel⟩, List.mem_of_getElem? (i := 588) (by decide +kernel), List.mem_of_getElem? (i := 819) (by decide +kernel), List.mem_of_getElem? (i := 820) (by decide +kernel)⟩
theorem lw_p56 : lw_okq (⟨"SkyBulletinModel", "parts", "(I)Z"⟩, 32) := ⟨⟨by decide +kernel, by decide +kernel⟩, List.mem_of_getElem? (i := 588) (by decide +kernel), List.mem_of_getElem? (i := 827) (by decide +kernel), List.mem_of_getElem? (i := 828) (by decide +kernel)⟩
theorem lw_p57 : lw_okq (⟨"SkyBulletinModel", "keep", "()V"⟩, 32) := ⟨⟨by decide +kernel, by decide +kernel⟩, List.mem_of_getElem? (i := 588) (by decide +kernel), List.mem_of_getElem? (i := 832) (by decide +kernel), List.mem_of_getElem? (i := 833) (by decide +kernel)⟩
theorem lw_p58 : lw_okq (⟨"SkyBulletinModel", "isGroup", "(I)Z"⟩, 32) := ⟨⟨by decide +kernel, by decide +kernel⟩, List.mem_of_getElem? (i := 588) (by decide +kernel), List.mem_of_getElem? (i := 844) (by decide +kernel), List.mem_of_getElem? (i := 845) (by decide +kernel)⟩
theorem lw_p59 : lw_okq (⟨"SkyBulletinModel", "isMinute", "(I)Z"⟩, 32) := ⟨⟨by decide +kernel, by decide +kernel⟩, List.mem_of_getElem? (i := 588) (by decide +kernel), List.mem_of_getElem? (i := 860) (by decide +kernel), List.mem_of_getElem? (i := 861) (by decide +kernel)⟩
theorem lw_p60 : lw_okq (⟨"SkyBulletinModel", "teller", "(II)I"⟩, 32) := ⟨⟨by decide +kernel, by decide +kernel⟩, List.mem_of_getElem? (i := 588) (by decide +kernel), List.mem_of_getElem? (i := 867) (by decide +kernel), List.mem_of_getElem? (i := 868) (by decide +kernel)⟩
theorem lw_p61 : lw_okq (⟨"SkyBulletinModel", "isActive", "(II)Z"⟩, 32) := ⟨⟨by decide +kernel, by decide +kernel⟩, List.mem_of_getElem? (i := 588) (by decide +kernel), List.mem_of_getElem? (i := 875) (by decide +kernel), List.mem_of_getElem? (i := 876) (by decide +kernel)⟩
theorem lw_p62 : lw_okq (⟨"SkyBulletinModel", "lowest", "(II)I"⟩, 32) := ⟨⟨by decide +kernel, by decide +kernel⟩, List.mem_of_getElem? (i := 588) (by decide +kernel), List.mem_of_getElem? (i := 891) (by decide +kernel), List.mem_of_getElem? (i := 892) (by decide +kernel)⟩
theorem lw_p63 : lw_okq (⟨"SkyBulletinModel", "isOther", "(I)Z"⟩, 32) := ⟨⟨by decide +kernel, by decide +kernel⟩, List.mem_of_getElem? (i := 588) (by decide +kernel), List.mem_of_getElem? (i := 899) (by decide +kernel), List.mem_of_getElem? (i := 900) (by decide +kernel)⟩
def lw_privs_4 : List (MethodName × Nat) := [(⟨"SkyBulletinModel", "cloudsOf", "(I)Z"⟩, 32), (⟨"SkyBulletinModel", "cloudHere", "()I"⟩, 32), (⟨"SkyBulletinModel", "ends", "()Z"⟩, 32), (⟨"SkyBulletinModel", "forecast", "()Z"⟩, 32), (⟨"SkyBulletinModel", "period", "(I)Z"⟩, 32), (⟨"SkyBulletinModel", "isPeriod", "()Z"⟩, 32), (⟨"SkyBulletinModel", "change", "(II)Z"⟩, 32), (⟨"SkyBulletinModel", "since", "(II)Z"⟩, 32), (⟨"SkyBulletinModel", "parts", "(I)Z"⟩, 32), (⟨"SkyBulletinModel", "keep", "()V"⟩, 32), (⟨"SkyBulletinModel", "isGroup", "(I)Z"⟩, 32), (⟨"SkyBulletinModel", "isMinute", "(I)Z"⟩, 32), (⟨"SkyBulletinModel", "teller", "(II)I"⟩, 32), (⟨"SkyBulletinModel", "isActive", "(II)Z"⟩, 32), (⟨"SkyBulletinModel", "lowest", "(II)I"⟩, 32), (⟨"SkyBulletinModel", "isOther", "(I)Z"⟩, 32)]
theorem lw_r4 : ∀ q ∈ lw_privs_4, lw_okq q := List.forall_mem_cons.mpr ⟨lw_p48, List.forall_mem_cons.mpr ⟨lw_p49, List.forall_mem_cons.mpr ⟨lw_p50, List.forall_mem_cons.mpr ⟨lw_p51, List.forall_mem_cons.mpr ⟨lw_p52, List.forall_mem_cons.mpr ⟨lw_p53, List.forall_mem_cons.mpr ⟨lw_p54, List.forall_mem_cons.mpr ⟨lw_p55, List.forall_mem_cons.mpr ⟨lw_p56, List.forall_mem_cons.mpr ⟨lw_p57, List.forall_mem_cons.mpr ⟨lw_p58, List.forall_mem_cons.mpr ⟨lw_p59, List.forall_mem_cons.mpr ⟨lw_p60, List.forall_mem_cons.mpr ⟨lw_p61, List.forall_mem_cons.mpr ⟨lw_p62, List.forall_mem_cons.mpr ⟨lw_p63, fun _ h => absurd h List.not_mem_nil⟩⟩⟩⟩⟩⟩⟩⟩⟩⟩⟩⟩⟩⟩⟩⟩
def lw_privs : List (MethodName × Nat) := lw_privs_1 ++ (lw_privs_2 ++ (lw_privs_3 ++ (lw_privs_4)))
def lw_tbl : List Cond := k2_sels lw_privs ++ tables_1
theorem lw_privs_ok : ∀ q ∈ lw_privs, lw_okq q := by
  show ∀ q ∈ lw_privs_1 ++ (lw_privs_2 ++ (lw_privs_3 ++ (lw_privs_4))), lw_okq q
  exact List.forall_mem_append.mpr ⟨lw_r1, List.forall_mem_append.mpr ⟨lw_r2, List.forall_mem_append.mpr ⟨lw_r3, lw_r4⟩⟩⟩
end
section
/-! ===== BEGIN words of one list among another's, by their places ===== -/
theorem goodIn_r {big : List Cond} (ws : List Cond) (ps : List Nat) (hp : ws = ps.filterMap (fun i => big[i]?)) (h : ws.all goodWord = true) : GoodIn big ws := by
  intro w hw
  have h1 := List.all_eq_true.mp h w hw
  rw [hp] at hw
  obtain ⟨i, -, hi⟩ := List.mem_filterMap.mp hw
  have hm : w ∈ big := by first | exact List.mem_of_getElem? hi | exact List.getElem?_mem hi
  exact ⟨hm, good_of_word h1⟩
theorem goodIn_app {big a b : List Cond} (ha : GoodIn big a) (hb : GoodIn big b) : GoodIn big (a ++ b) := fun w h => (List.mem_append.mp h).elim (ha w) (hb w)
theorem goodIn_ca {big a b : List Cond} {c : Cond} (ha : GoodIn big (c :: a)) (hb : GoodIn big b) : GoodIn big (c :: (a ++ b)) := fun w h => (List.mem_cons.mp h).elim (fun e => ha w (List.mem_cons.mpr (Or.inl e))) (fun h => (List.mem_append.mp h).elim (fun h => ha w (List.mem_cons.mpr (Or.inr h))) (hb w))
theorem goodIn_sub {big ws : List Cond} (hm : ∀ w ∈ ws, w ∈ big) (h : ws.all goodWord = true) : GoodIn big ws := fun w hw => ⟨hm w hw, good_of_word (List.all_eq_true.mp h w hw)⟩
/-! ===== END ===== -/

/-! ===== BEGIN printed: names, fields, word lists, decode rows ===== -/
def RX0 : String := "SkyBulletin$Bulletin"
def TX0 : u_T := fun k => match k with
  | 0 => ("SkyBulletin$Bulletin", "kind", "I", false)
  | 1 => ("SkyBulletin$Bulletin", "days", "I", false)
  | 2 => ("SkyBulletin$Bulletin", "issue", "I", false)
  | 3 => ("SkyBulletin$Bulletin", "temperature", "I", false)
  | 4 => ("SkyBulletin$Bulletin", "dewPoint", "I", false)
  | 5 => ("SkyBulletin$Bulletin", "pressure", "I", false)
  | 6 => ("SkyBulletin$Bulletin", "station", "[I", true)
  | 7 => ("SkyBulletin$Bulletin", "groupCount", "I", false)
  | 8 => ("SkyBulletin$Bulletin", "groups", "[LSkyBulletin$Group;", true)
  | 9 => ("SkyBulletin$Bulletin", "text", "[C", true)
  | _ => ("SkyBulletin$Bulletin", "textLength", "I", false)
def tyX0 : Nat → FieldType := fun k => match k with
  | 0 => .int
  | 1 => .int
  | 2 => .int
  | 3 => .int
  | 4 => .int
  | 5 => .int
  | 6 => .array .int
  | 7 => .int
  | 8 => .array (.object "SkyBulletin$Group")
  | 9 => .array .char
  | _ => .int
abbrev wsX00 : List Cond := u_ws RX0 TX0 11
theorem nmX0 : ∀ a, a < 11 → ∀ b, b < 11 → a ≠ b → (TX0 a).2.1 ≠ (TX0 b).2.1 := by decide +kernel
theorem tyX0_ok : ∀ k, k < 11 → parseFieldDescriptor (TX0 k).2.2.1 = some (tyX0 k) := by decide +kernel
abbrev cX0_init : ByteArray := prog_2_method_1_code
def yX0_init : MethodName := ⟨RX0, "<init>", "()V"⟩
abbrev cX0_start : ByteArray := prog_2_method_2_code
def yX0_start : MethodName := ⟨RX0, "start", "(I)V"⟩
abbrev cX0_hasGroup : ByteArray := prog_2_method_3_code
def yX0_hasGroup : MethodName := ⟨RX0, "hasGroup", "(I)Z"⟩
abbrev cX0_addGroup : ByteArray := prog_2_method_4_code
def yX0_addGroup : MethodName := ⟨RX0, "addGroup", "()V"⟩
abbrev cX0_keepTokens : ByteArray := prog_2_method_5_code
def yX0_keepTokens : MethodName := ⟨RX0, "keepTokens", "([CI)V"⟩
abbrev cX0_covers : ByteArray := prog_2_method_6_code
def yX0_covers : MethodName := ⟨RX0, "covers", "(I)Z"⟩
abbrev cX0_teller : ByteArray := prog_2_method_7_code
def yX0_teller : MethodName := ⟨RX0, "teller", "(II)I"⟩
abbrev cX0_countActive : ByteArray := prog_2_method_8_code
def yX0_countActive : MethodName := ⟨RX0, "countActive", "(I)I"⟩
abbrev cX0_findActive : ByteArray := prog_2_method_9_code
def yX0_findActive : MethodName := ⟨RX0, "findActive", "(II)I"⟩
abbrev cX0_leastVisibility : ByteArray := prog_2_method_10_code
def yX0_leastVisibility : MethodName := ⟨RX0, "leastVisibility", "(I)I"⟩
abbrev cX0_lowestCeiling : ByteArray := prog_2_method_11_code
def yX0_lowestCeiling : MethodName := ⟨RX0, "lowestCeiling", "(IZ)I"⟩
abbrev cX0_nextTurn : ByteArray := prog_2_method_12_code
def yX0_nextTurn : MethodName := ⟨RX0, "nextTurn", "(I)I"⟩
abbrev cX0_nearerTurn : ByteArray := prog_2_method_13_code
def yX0_nearerTurn : MethodName := ⟨RX0, "nearerTurn", "(III)I"⟩
abbrev cX0_isTurn : ByteArray := prog_2_method_14_code
def yX0_isTurn : MethodName := ⟨RX0, "isTurn", "(I)Z"⟩
abbrev cX0_eachMinuteTells : ByteArray := prog_2_method_15_code
def yX0_eachMinuteTells : MethodName := ⟨RX0, "eachMinuteTells", "()Z"⟩
abbrev cX0_minuteTells : ByteArray := prog_2_method_16_code
def yX0_minuteTells : MethodName := ⟨RX0, "minuteTells", "(I)Z"⟩
abbrev cX0_sameAs : ByteArray := prog_2_method_17_code
def yX0_sameAs : MethodName := ⟨RX0, "sameAs", "(LSkyBulletin$Bulletin;)Z"⟩
abbrev cX0_sameGroups : ByteArray := prog_2_method_18_code
def yX0_sameGroups : MethodName := ⟨RX0, "sameGroups", "(LSkyBulletin$Bulletin;)Z"⟩
abbrev cX0_sameText : ByteArray := prog_2_method_19_code
def yX0_sameText : MethodName := ⟨RX0, "sameText", "(LSkyBulletin$Bulletin;)Z"⟩
def RX1 : String := "SkyBulletin$Group"
def TX1 : u_T := fun k => match k with
  | 0 => ("SkyBulletin$Group", "kind", "I", false)
  | 1 => ("SkyBulletin$Group", "chance", "I", false)
  | 2 => ("SkyBulletin$Group", "begin", "I", false)
  | 3 => ("SkyBulletin$Group", "end", "I", false)
  | 4 => ("SkyBulletin$Group", "direction", "I", false)
  | 5 => ("SkyBulletin$Group", "speed", "I", false)
  | 6 => ("SkyBulletin$Group", "gusts", "I", false)
  | 7 => ("SkyBulletin$Group", "visibility", "I", false)
  | 8 => ("SkyBulletin$Group", "weatherCount", "I", false)
  | 9 => ("SkyBulletin$Group", "cloudCount", "I", false)
  | 10 => ("SkyBulletin$Group", "weathers", "[I", true)
  | _ => ("SkyBulletin$Group", "clouds", "[I", true)
def tyX1 : Nat → FieldType := fun k => match k with
  | 0 => .int
  | 1 => .int
  | 2 => .int
  | 3 => .int
  | 4 => .int
  | 5 => .int
  | 6 => .int
  | 7 => .int
  | 8 => .int
  | 9 => .int
  | 10 => .array .int
  | _ => .array .int
abbrev wsX10 : List Cond := u_ws RX1 TX1 12
theorem nmX1 : ∀ a, a < 12 → ∀ b, b < 12 → a ≠ b → (TX1 a).2.1 ≠ (TX1 b).2.1 := by decide +kernel
theorem tyX1_ok : ∀ k, k < 12 → parseFieldDescriptor (TX1 k).2.2.1 = some (tyX1 k) := by decide +kernel
abbrev cX1_init : ByteArray := prog_3_method_1_code
def yX1_init : MethodName := ⟨RX1, "<init>", "()V"⟩
abbrev cX1_clear : ByteArray := prog_3_method_2_code
def yX1_clear : MethodName := ⟨RX1, "clear", "()V"⟩
abbrev cX1_addWeather : ByteArray := prog_3_method_3_code
def yX1_addWeather : MethodName := ⟨RX1, "addWeather", "(I)V"⟩
abbrev cX1_addCloud : ByteArray := prog_3_method_4_code
def yX1_addCloud : MethodName := ⟨RX1, "addCloud", "(I)V"⟩
abbrev cX1_tells : ByteArray := prog_3_method_5_code
def yX1_tells : MethodName := ⟨RX1, "tells", "(I)Z"⟩
abbrev cX1_tellsSomething : ByteArray := prog_3_method_6_code
def yX1_tellsSomething : MethodName := ⟨RX1, "tellsSomething", "()Z"⟩
abbrev cX1_holdsAt : ByteArray := prog_3_method_7_code
def yX1_holdsAt : MethodName := ⟨RX1, "holdsAt", "(I)Z"⟩
abbrev cX1_isActiveAt : ByteArray := prog_3_method_8_code
def yX1_isActiveAt : MethodName := ⟨RX1, "isActiveAt", "(I)Z"⟩
abbrev cX1_lowerCeiling : ByteArray := prog_3_method_9_code
def yX1_lowerCeiling : MethodName := ⟨RX1, "lowerCeiling", "(I)I"⟩
abbrev cX1_sameAs : ByteArray := prog_3_method_10_code
def yX1_sameAs : MethodName := ⟨RX1, "sameAs", "(LSkyBulletin$Group;)Z"⟩
abbrev cX1_amountOf : ByteArray := prog_3_method_11_code
def yX1_amountOf : MethodName := ⟨RX1, "amountOf", "(I)I"⟩
abbrev cX1_heightOf : ByteArray := prog_3_method_12_code
def yX1_heightOf : MethodName := ⟨RX1, "heightOf", "(I)I"⟩
abbrev cX1_sameStart : ByteArray := prog_3_method_13_code
def yX1_sameStart : MethodName := ⟨RX1, "sameStart", "([I[II)Z"⟩
def RX2 : String := "SkyBulletin$Reader"
def TX2 : u_T := fun k => match k with
  | 0 => ("SkyBulletin$Reader", "source", "[C", false)
  | 1 => ("SkyBulletin$Reader", "length", "I", false)
  | 2 => ("SkyBulletin$Reader", "tokenBegin", "I", false)
  | 3 => ("SkyBulletin$Reader", "width", "I", false)
  | 4 => ("SkyBulletin$Reader", "token", "[C", true)
  | 5 => ("SkyBulletin$Reader", "days", "I", false)
  | 6 => ("SkyBulletin$Reader", "latestFrom", "I", false)
  | _ => ("SkyBulletin$Reader", "target", "LSkyBulletin$Bulletin;", false)
def tyX2 : Nat → FieldType := fun k => match k with
  | 0 => .array .char
  | 1 => .int
  | 2 => .int
  | 3 => .int
  | 4 => .array .char
  | 5 => .int
  | 6 => .int
  | _ => .object "SkyBulletin$Bulletin"
abbrev wsX20 : List Cond := u_ws RX2 TX2 8
theorem nmX2 : ∀ a, a < 8 → ∀ b, b < 8 → a ≠ b → (TX2 a).2.1 ≠ (TX2 b).2.1 := by decide +kernel
theorem tyX2_ok : ∀ k, k < 8 → parseFieldDescriptor (TX2 k).2.2.1 = some (tyX2 k) := by decide +kernel
abbrev cX2_init : ByteArray := prog_4_method_1_code
def yX2_init : MethodName := ⟨RX2, "<init>", "([CLSkyBulletin$Bulletin;)V"⟩
abbrev cX2_readText : ByteArray := prog_4_method_2_code
def yX2_readText : MethodName := ⟨RX2, "readText", "([CIILSkyBulletin$Bulletin;)I"⟩
abbrev cX2_takeHead : ByteArray := prog_4_method_3_code
def yX2_takeHead : MethodName := ⟨RX2, "takeHead", "()Z"⟩
abbrev cX2_takeReport : ByteArray := prog_4_method_4_code
def yX2_takeReport : MethodName := ⟨RX2, "takeReport", "()Z"⟩
abbrev cX2_takeForecast : ByteArray := prog_4_method_5_code
def yX2_takeForecast : MethodName := ⟨RX2, "takeForecast", "()Z"⟩
abbrev cX2_takeChangeName : ByteArray := prog_4_method_6_code
def yX2_takeChangeName : MethodName := ⟨RX2, "takeChangeName", "(LSkyBulletin$Group;)Z"⟩
abbrev cX2_takeWhole : ByteArray := prog_4_method_7_code
def yX2_takeWhole : MethodName := ⟨RX2, "takeWhole", "(LSkyBulletin$Group;)Z"⟩
abbrev cX2_takeParts : ByteArray := prog_4_method_8_code
def yX2_takeParts : MethodName := ⟨RX2, "takeParts", "(LSkyBulletin$Group;)Z"⟩
abbrev cX2_takeStation : ByteArray := prog_4_method_9_code
def yX2_takeStation : MethodName := ⟨RX2, "takeStation", "()Z"⟩
abbrev cX2_takeIssue : ByteArray := prog_4_method_10_code
def yX2_takeIssue : MethodName := ⟨RX2, "takeIssue", "()Z"⟩
abbrev cX2_takeTemperatures : ByteArray := prog_4_method_11_code
def yX2_takeTemperatures : MethodName := ⟨RX2, "takeTemperatures", "()Z"⟩
abbrev cX2_takePressure : ByteArray := prog_4_method_12_code
def yX2_takePressure : MethodName := ⟨RX2, "takePressure", "()Z"⟩
abbrev cX2_takeForecastPeriod : ByteArray := prog_4_method_13_code
def yX2_takeForecastPeriod : MethodName := ⟨RX2, "takeForecastPeriod", "(LSkyBulletin$Group;)Z"⟩
abbrev cX2_takeChangePeriod : ByteArray := prog_4_method_14_code
def yX2_takeChangePeriod : MethodName := ⟨RX2, "takeChangePeriod", "(LSkyBulletin$Group;)Z"⟩
abbrev cX2_findPeriod : ByteArray := prog_4_method_15_code
def yX2_findPeriod : MethodName := ⟨RX2, "findPeriod", "(LSkyBulletin$Group;I)Z"⟩
abbrev cX2_takeFromTime : ByteArray := prog_4_method_16_code
def yX2_takeFromTime : MethodName := ⟨RX2, "takeFromTime", "(LSkyBulletin$Group;)Z"⟩
abbrev cX2_takeWind : ByteArray := prog_4_method_17_code
def yX2_takeWind : MethodName := ⟨RX2, "takeWind", "(LSkyBulletin$Group;)Z"⟩
abbrev cX2_takeCavok : ByteArray := prog_4_method_18_code
def yX2_takeCavok : MethodName := ⟨RX2, "takeCavok", "(LSkyBulletin$Group;)Z"⟩
abbrev cX2_takeVisibility : ByteArray := prog_4_method_19_code
def yX2_takeVisibility : MethodName := ⟨RX2, "takeVisibility", "(LSkyBulletin$Group;)Z"⟩
abbrev cX2_takeWeathers : ByteArray := prog_4_method_20_code
def yX2_takeWeathers : MethodName := ⟨RX2, "takeWeathers", "(LSkyBulletin$Group;)V"⟩
abbrev cX2_weatherNumber : ByteArray := prog_4_method_21_code
def yX2_weatherNumber : MethodName := ⟨RX2, "weatherNumber", "()I"⟩
abbrev cX2_signNumber : ByteArray := prog_4_method_22_code
def yX2_signNumber : MethodName := ⟨RX2, "signNumber", "()I"⟩
abbrev cX2_takeClouds : ByteArray := prog_4_method_23_code
def yX2_takeClouds : MethodName := ⟨RX2, "takeClouds", "(LSkyBulletin$Group;)Z"⟩
abbrev cX2_layerNumber : ByteArray := prog_4_method_24_code
def yX2_layerNumber : MethodName := ⟨RX2, "layerNumber", "()I"⟩
abbrev cX2_timeAt : ByteArray := prog_4_method_25_code
def yX2_timeAt : MethodName := ⟨RX2, "timeAt", "(I)I"⟩
abbrev cX2_hourAt : ByteArray := prog_4_method_26_code
def yX2_hourAt : MethodName := ⟨RX2, "hourAt", "(II)I"⟩
abbrev cX2_degreesAt : ByteArray := prog_4_method_27_code
def yX2_degreesAt : MethodName := ⟨RX2, "degreesAt", "(I)I"⟩
abbrev cX2_digits : ByteArray := prog_4_method_28_code
def yX2_digits : MethodName := ⟨RX2, "digits", "(II)I"⟩
abbrev cX2_pairAt : ByteArray := prog_4_method_29_code
def yX2_pairAt : MethodName := ⟨RX2, "pairAt", "(ILjava/lang/String;)I"⟩
abbrev cX2_holds : ByteArray := prog_4_method_30_code
def yX2_holds : MethodName := ⟨RX2, "holds", "(ILjava/lang/String;)Z"⟩
abbrev cX2_takeWord : ByteArray := prog_4_method_31_code
def yX2_takeWord : MethodName := ⟨RX2, "takeWord", "(Ljava/lang/String;)Z"⟩
abbrev cX2_takeToken : ByteArray := prog_4_method_32_code
def yX2_takeToken : MethodName := ⟨RX2, "takeToken", "()Z"⟩
def RX3 : String := "SkyBulletin"
def TX3 : u_T := fun k => match k with
  | 0 => ("SkyBulletin", "typed", "[C", true)
  | 1 => ("SkyBulletin", "typedLength", "I", false)
  | 2 => ("SkyBulletin", "printed", "[C", true)
  | 3 => ("SkyBulletin", "printedLength", "I", false)
  | 4 => ("SkyBulletin", "kept", "LSkyBulletin$Bulletin;", false)
  | 5 => ("SkyBulletin", "draft", "LSkyBulletin$Bulletin;", false)
  | _ => ("SkyBulletin", "reader", "LSkyBulletin$Reader;", true)
def tyX3 : Nat → FieldType := fun k => match k with
  | 0 => .array .char
  | 1 => .int
  | 2 => .array .char
  | 3 => .int
  | 4 => .object "SkyBulletin$Bulletin"
  | 5 => .object "SkyBulletin$Bulletin"
  | _ => .object "SkyBulletin$Reader"
abbrev wsX30 : List Cond := u_ws RX3 TX3 7
theorem nmX3 : ∀ a, a < 7 → ∀ b, b < 7 → a ≠ b → (TX3 a).2.1 ≠ (TX3 b).2.1 := by decide +kernel
theorem tyX3_ok : ∀ k, k < 7 → parseFieldDescriptor (TX3 k).2.2.1 = some (tyX3 k) := by decide +kernel
abbrev cX3_init : ByteArray := prog_1_method_1_code
def yX3_init : MethodName := ⟨RX3, "<init>", "()V"⟩
abbrev cX3_type : ByteArray := prog_1_method_2_code
def yX3_type : MethodName := ⟨RX3, "type", "(JI)I"⟩
abbrev cX3_read : ByteArray := prog_1_method_3_code
def yX3_read : MethodName := ⟨RX3, "read", "(I)I"⟩
abbrev cX3_told : ByteArray := prog_1_method_4_code
def yX3_told : MethodName := ⟨RX3, "told", "(I)I"⟩
abbrev cX3_group : ByteArray := prog_1_method_5_code
def yX3_group : MethodName := ⟨RX3, "group", "(II)I"⟩
abbrev cX3_weather : ByteArray := prog_1_method_6_code
def yX3_weather : MethodName := ⟨RX3, "weather", "(II)I"⟩
abbrev cX3_cloud : ByteArray := prog_1_method_7_code
def yX3_cloud : MethodName := ⟨RX3, "cloud", "(II)I"⟩
abbrev cX3_from : ByteArray := prog_1_method_8_code
def yX3_from : MethodName := ⟨RX3, "from", "(II)I"⟩
abbrev cX3_active : ByteArray := prog_1_method_9_code
def yX3_active : MethodName := ⟨RX3, "active", "(I)I"⟩
abbrev cX3_activeOne : ByteArray := prog_1_method_10_code
def yX3_activeOne : MethodName := ⟨RX3, "activeOne", "(II)I"⟩
abbrev cX3_least : ByteArray := prog_1_method_11_code
def yX3_least : MethodName := ⟨RX3, "least", "(I)I"⟩
abbrev cX3_ceiling : ByteArray := prog_1_method_12_code
def yX3_ceiling : MethodName := ⟨RX3, "ceiling", "(II)I"⟩
abbrev cX3_next : ByteArray := prog_1_method_13_code
def yX3_next : MethodName := ⟨RX3, "next", "(I)I"⟩
abbrev cX3_print : ByteArray := prog_1_method_14_code
def yX3_print : MethodName := ⟨RX3, "print", "()I"⟩
abbrev cX3_character : ByteArray := prog_1_method_15_code
def yX3_character : MethodName := ⟨RX3, "character", "(I)I"⟩
abbrev cX3_check : ByteArray := prog_1_method_16_code
def yX3_check : MethodName := ⟨RX3, "check", "()I"⟩
abbrev cX3_byteOf : ByteArray := prog_1_method_17_code
def yX3_byteOf : MethodName := ⟨RX3, "byteOf", "(JI)I"⟩
def RX4 : String := "SkyBulletinModel"
def TX4 : u_T := fun k => match k with
  | 0 => ("SkyBulletinModel", "typed", "[I", true)
  | 1 => ("SkyBulletinModel", "length", "I", false)
  | 2 => ("SkyBulletinModel", "from", "[I", true)
  | 3 => ("SkyBulletinModel", "to", "[I", true)
  | 4 => ("SkyBulletinModel", "tokens", "I", false)
  | 5 => ("SkyBulletinModel", "at", "I", false)
  | 6 => ("SkyBulletinModel", "kind", "I", false)
  | 7 => ("SkyBulletinModel", "groups", "I", false)
  | 8 => ("SkyBulletinModel", "days", "I", false)
  | 9 => ("SkyBulletinModel", "issue", "I", false)
  | 10 => ("SkyBulletinModel", "issueDay", "I", false)
  | 11 => ("SkyBulletinModel", "warmth", "I", false)
  | 12 => ("SkyBulletinModel", "dew", "I", false)
  | 13 => ("SkyBulletinModel", "pressure", "I", false)
  | 14 => ("SkyBulletinModel", "letters", "[I", true)
  | 15 => ("SkyBulletinModel", "told", "[I", true)
  | 16 => ("SkyBulletinModel", "weathers", "[I", true)
  | 17 => ("SkyBulletinModel", "clouds", "[I", true)
  | 18 => ("SkyBulletinModel", "keptKind", "I", false)
  | 19 => ("SkyBulletinModel", "keptGroups", "I", false)
  | 20 => ("SkyBulletinModel", "keptIssue", "I", false)
  | 21 => ("SkyBulletinModel", "keptWarmth", "I", false)
  | 22 => ("SkyBulletinModel", "keptDew", "I", false)
  | 23 => ("SkyBulletinModel", "keptPressure", "I", false)
  | 24 => ("SkyBulletinModel", "keptLetters", "[I", true)
  | 25 => ("SkyBulletinModel", "kept", "[I", true)
  | 26 => ("SkyBulletinModel", "keptWeathers", "[I", true)
  | 27 => ("SkyBulletinModel", "keptClouds", "[I", true)
  | 28 => ("SkyBulletinModel", "text", "[I", true)
  | 29 => ("SkyBulletinModel", "textLength", "I", false)
  | 30 => ("SkyBulletinModel", "printed", "[I", true)
  | _ => ("SkyBulletinModel", "printedLength", "I", false)
def tyX4 : Nat → FieldType := fun k => match k with
  | 0 => .array .int
  | 1 => .int
  | 2 => .array .int
  | 3 => .array .int
  | 4 => .int
  | 5 => .int
  | 6 => .int
  | 7 => .int
  | 8 => .int
  | 9 => .int
  | 10 => .int
  | 11 => .int
  | 12 => .int
  | 13 => .int
  | 14 => .array .int
  | 15 => .array .int
  | 16 => .array .int
  | 17 => .array .int
  | 18 => .int
  | 19 => .int
  | 20 => .int
  | 21 => .int
  | 22 => .int
  | 23 => .int
  | 24 => .array .int
  | 25 => .array .int
  | 26 => .array .int
  | 27 => .array .int
  | 28 => .array .int
  | 29 => .int
  | 30 => .array .int
  | _ => .int
abbrev wsX40 : List Cond := u_ws RX4 TX4 32
theorem nmX4 : ∀ a, a < 32 → ∀ b, b < 32 → a ≠ b → (TX4 a).2.1 ≠ (TX4 b).2.1 := by decide +kernel
theorem tyX4_ok : ∀ k, k < 32 → parseFieldDescriptor (TX4 k).2.2.1 = some (tyX4 k) := by decide +kernel
abbrev cX4_init : ByteArray := prog_6_method_1_code
def yX4_init : MethodName := ⟨RX4, "<init>", "()V"⟩
abbrev cX4_type : ByteArray := prog_6_method_3_code
def yX4_type : MethodName := ⟨RX4, "type", "(JI)I"⟩
abbrev cX4_split : ByteArray := prog_6_method_4_code
def yX4_split : MethodName := ⟨RX4, "split", "()V"⟩
abbrev cX4_size : ByteArray := prog_6_method_5_code
def yX4_size : MethodName := ⟨RX4, "size", "()I"⟩
abbrev cX4_sign : ByteArray := prog_6_method_6_code
def yX4_sign : MethodName := ⟨RX4, "sign", "(I)I"⟩
abbrev cX4_word : ByteArray := prog_6_method_7_code
def yX4_word : MethodName := ⟨RX4, "word", "()J"⟩
abbrev cX4_number : ByteArray := prog_6_method_8_code
def yX4_number : MethodName := ⟨RX4, "number", "(II)I"⟩
abbrev cX4_pair : ByteArray := prog_6_method_9_code
def yX4_pair : MethodName := ⟨RX4, "pair", "(I)I"⟩
abbrev cX4_station : ByteArray := prog_6_method_10_code
def yX4_station : MethodName := ⟨RX4, "station", "()Z"⟩
abbrev cX4_isDay : ByteArray := prog_6_method_11_code
def yX4_isDay : MethodName := ⟨RX4, "isDay", "(I)Z"⟩
abbrev cX4_isIn : ByteArray := prog_6_method_12_code
def yX4_isIn : MethodName := ⟨RX4, "isIn", "(II)Z"⟩
abbrev cX4_issued : ByteArray := prog_6_method_13_code
def yX4_issued : MethodName := ⟨RX4, "issued", "()Z"⟩
abbrev cX4_ends : ByteArray := prog_6_method_14_code
def yX4_ends : MethodName := ⟨RX4, "ends", "()Z"⟩
abbrev cX4_wind : ByteArray := prog_6_method_15_code
def yX4_wind : MethodName := ⟨RX4, "wind", "(I)Z"⟩
abbrev cX4_visibility : ByteArray := prog_6_method_16_code
def yX4_visibility : MethodName := ⟨RX4, "visibility", "(I)Z"⟩
abbrev cX4_firstKind : ByteArray := prog_6_method_17_code
def yX4_firstKind : MethodName := ⟨RX4, "firstKind", "(I)I"⟩
abbrev cX4_secondKind : ByteArray := prog_6_method_18_code
def yX4_secondKind : MethodName := ⟨RX4, "secondKind", "(I)I"⟩
abbrev cX4_thirdKind : ByteArray := prog_6_method_19_code
def yX4_thirdKind : MethodName := ⟨RX4, "thirdKind", "(I)I"⟩
abbrev cX4_weatherHere : ByteArray := prog_6_method_20_code
def yX4_weatherHere : MethodName := ⟨RX4, "weatherHere", "()I"⟩
abbrev cX4_cloudHere : ByteArray := prog_6_method_21_code
def yX4_cloudHere : MethodName := ⟨RX4, "cloudHere", "()I"⟩
abbrev cX4_weatherOf : ByteArray := prog_6_method_22_code
def yX4_weatherOf : MethodName := ⟨RX4, "weatherOf", "(I)I"⟩
abbrev cX4_cloudsOf : ByteArray := prog_6_method_23_code
def yX4_cloudsOf : MethodName := ⟨RX4, "cloudsOf", "(I)Z"⟩
abbrev cX4_clear : ByteArray := prog_6_method_24_code
def yX4_clear : MethodName := ⟨RX4, "clear", "(I)Z"⟩
abbrev cX4_sky : ByteArray := prog_6_method_25_code
def yX4_sky : MethodName := ⟨RX4, "sky", "(I)Z"⟩
abbrev cX4_parts : ByteArray := prog_6_method_26_code
def yX4_parts : MethodName := ⟨RX4, "parts", "(I)Z"⟩
abbrev cX4_isPeriod : ByteArray := prog_6_method_27_code
def yX4_isPeriod : MethodName := ⟨RX4, "isPeriod", "()Z"⟩
abbrev cX4_period : ByteArray := prog_6_method_28_code
def yX4_period : MethodName := ⟨RX4, "period", "(I)Z"⟩
abbrev cX4_since : ByteArray := prog_6_method_29_code
def yX4_since : MethodName := ⟨RX4, "since", "(II)Z"⟩
abbrev cX4_blank : ByteArray := prog_6_method_30_code
def yX4_blank : MethodName := ⟨RX4, "blank", "()V"⟩
abbrev cX4_change : ByteArray := prog_6_method_31_code
def yX4_change : MethodName := ⟨RX4, "change", "(II)Z"⟩
abbrev cX4_forecast : ByteArray := prog_6_method_32_code
def yX4_forecast : MethodName := ⟨RX4, "forecast", "()Z"⟩
abbrev cX4_report : ByteArray := prog_6_method_33_code
def yX4_report : MethodName := ⟨RX4, "report", "()Z"⟩
abbrev cX4_read : ByteArray := prog_6_method_34_code
def yX4_read : MethodName := ⟨RX4, "read", "(I)I"⟩
abbrev cX4_keep : ByteArray := prog_6_method_35_code
def yX4_keep : MethodName := ⟨RX4, "keep", "()V"⟩
abbrev cX4_told : ByteArray := prog_6_method_36_code
def yX4_told : MethodName := ⟨RX4, "told", "(I)I"⟩
abbrev cX4_isGroup : ByteArray := prog_6_method_37_code
def yX4_isGroup : MethodName := ⟨RX4, "isGroup", "(I)Z"⟩
abbrev cX4_group : ByteArray := prog_6_method_38_code
def yX4_group : MethodName := ⟨RX4, "group", "(II)I"⟩
abbrev cX4_weather : ByteArray := prog_6_method_39_code
def yX4_weather : MethodName := ⟨RX4, "weather", "(II)I"⟩
abbrev cX4_cloud : ByteArray := prog_6_method_40_code
def yX4_cloud : MethodName := ⟨RX4, "cloud", "(II)I"⟩
abbrev cX4_isMinute : ByteArray := prog_6_method_41_code
def yX4_isMinute : MethodName := ⟨RX4, "isMinute", "(I)Z"⟩
abbrev cX4_teller : ByteArray := prog_6_method_42_code
def yX4_teller : MethodName := ⟨RX4, "teller", "(II)I"⟩
abbrev cX4_part : ByteArray := prog_6_method_43_code
def yX4_part : MethodName := ⟨RX4, "part", "(I)I"⟩
abbrev cX4_from : ByteArray := prog_6_method_44_code
def yX4_from : MethodName := ⟨RX4, "from", "(II)I"⟩
abbrev cX4_isActive : ByteArray := prog_6_method_45_code
def yX4_isActive : MethodName := ⟨RX4, "isActive", "(II)Z"⟩
abbrev cX4_active : ByteArray := prog_6_method_46_code
def yX4_active : MethodName := ⟨RX4, "active", "(I)I"⟩
abbrev cX4_activeOne : ByteArray := prog_6_method_47_code
def yX4_activeOne : MethodName := ⟨RX4, "activeOne", "(II)I"⟩
abbrev cX4_least : ByteArray := prog_6_method_48_code
def yX4_least : MethodName := ⟨RX4, "least", "(I)I"⟩
abbrev cX4_lowest : ByteArray := prog_6_method_49_code
def yX4_lowest : MethodName := ⟨RX4, "lowest", "(II)I"⟩
abbrev cX4_ceiling : ByteArray := prog_6_method_50_code
def yX4_ceiling : MethodName := ⟨RX4, "ceiling", "(II)I"⟩
abbrev cX4_isOther : ByteArray := prog_6_method_51_code
def yX4_isOther : MethodName := ⟨RX4, "isOther", "(I)Z"⟩
abbrev cX4_next : ByteArray := prog_6_method_52_code
def yX4_next : MethodName := ⟨RX4, "next", "(I)I"⟩
abbrev cX4_print : ByteArray := prog_6_method_53_code
def yX4_print : MethodName := ⟨RX4, "print", "()I"⟩
abbrev cX4_character : ByteArray := prog_6_method_54_code
def yX4_character : MethodName := ⟨RX4, "character", "(I)I"⟩
abbrev cX4_check : ByteArray := prog_6_method_55_code
def yX4_check : MethodName := ⟨RX4, "check", "()I"⟩
def RJ9 : String := "java/lang/Math"
def TJ9 : u_T := fun k => match k with
  | _ => ("", "", "", false)
def tyJ9 : Nat → FieldType := fun k => match k with
  | _ => .int
abbrev wsJ90 : List Cond := u_ws RJ9 TJ9 0
theorem nmJ9 : ∀ a, a < 0 → ∀ b, b < 0 → a ≠ b → (TJ9 a).2.1 ≠ (TJ9 b).2.1 := by decide +kernel
theorem tyJ9_ok : ∀ k, k < 0 → parseFieldDescriptor (TJ9 k).2.2.1 = some (tyJ9 k) := by decide +kernel
abbrev cJ9_max_7cf53 : ByteArray := prog_7_method_65_code
def yJ9_max_7cf53 : MethodName := ⟨RJ9, "max", "(II)I"⟩
abbrev cJ9_min_7cf53 : ByteArray := prog_7_method_69_code
def yJ9_min_7cf53 : MethodName := ⟨RJ9, "min", "(II)I"⟩
def RJ0 : String := "java/lang/String"
def TJ0 : u_T := fun k => match k with
  | _ => ("", "", "", false)
def tyJ0 : Nat → FieldType := fun k => match k with
  | _ => .int
abbrev wsJ00 : List Cond := u_ws RJ0 TJ0 0
theorem nmJ0 : ∀ a, a < 0 → ∀ b, b < 0 → a ≠ b → (TJ0 a).2.1 ≠ (TJ0 b).2.1 := by decide +kernel
theorem tyJ0_ok : ∀ k, k < 0 → parseFieldDescriptor (TJ0 k).2.2.1 = some (tyJ0 k) := by decide +kernel
abbrev cJ0_length_8abf5 : ByteArray := prog_8_method_54_code
def yJ0_length_8abf5 : MethodName := ⟨RJ0, "length", "()I"⟩
abbrev cJ0_charAt_5068e : ByteArray := prog_8_method_56_code
def yJ0_charAt_5068e : MethodName := ⟨RJ0, "charAt", "(I)C"⟩
abbrev cJ0_coder_7d493 : ByteArray := prog_8_method_152_code
def yJ0_coder_7d493 : MethodName := ⟨RJ0, "coder", "()B"⟩
abbrev cJ0_isLatin1_aae02 : ByteArray := prog_8_method_154_code
def yJ0_isLatin1_aae02 : MethodName := ⟨RJ0, "isLatin1", "()Z"⟩
abbrev cJ0_checkIndex_df160 : ByteArray := prog_8_method_155_code
def yJ0_checkIndex_df160 : MethodName := ⟨RJ0, "checkIndex", "(II)V"⟩
def RJ1 : String := "java/lang/StringLatin1"
def TJ1 : u_T := fun k => match k with
  | _ => ("", "", "", false)
def tyJ1 : Nat → FieldType := fun k => match k with
  | _ => .int
abbrev wsJ10 : List Cond := u_ws RJ1 TJ1 0
theorem nmJ1 : ∀ a, a < 0 → ∀ b, b < 0 → a ≠ b → (TJ1 a).2.1 ≠ (TJ1 b).2.1 := by decide +kernel
theorem tyJ1_ok : ∀ k, k < 0 → parseFieldDescriptor (TJ1 k).2.2.1 = some (tyJ1 k) := by decide +kernel
abbrev cJ1_charAt_3b067 : ByteArray := prog_9_method_2_code
def yJ1_charAt_3b067 : MethodName := ⟨RJ1, "charAt", "([BI)C"⟩
def RJ2 : String := "java/lang/StringUTF16"
def TJ2 : u_T := fun k => match k with
  | _ => ("", "", "", false)
def tyJ2 : Nat → FieldType := fun k => match k with
  | _ => .int
abbrev wsJ20 : List Cond := u_ws RJ2 TJ2 0
theorem nmJ2 : ∀ a, a < 0 → ∀ b, b < 0 → a ≠ b → (TJ2 a).2.1 ≠ (TJ2 b).2.1 := by decide +kernel
theorem tyJ2_ok : ∀ k, k < 0 → parseFieldDescriptor (TJ2 k).2.2.1 = some (tyJ2 k) := by decide +kernel
abbrev cJ2_getChar_3b067 : ByteArray := prog_10_method_5_code
def yJ2_getChar_3b067 : MethodName := ⟨RJ2, "getChar", "([BI)C"⟩
abbrev cJ2_length_9d52b : ByteArray := prog_10_method_6_code
def yJ2_length_9d52b : MethodName := ⟨RJ2, "length", "([B)I"⟩
abbrev cJ2_charAt_3b067 : ByteArray := prog_10_method_83_code
def yJ2_charAt_3b067 : MethodName := ⟨RJ2, "charAt", "([BI)C"⟩
abbrev cJ2_checkIndex_2214a : ByteArray := prog_10_method_91_code
def yJ2_checkIndex_2214a : MethodName := ⟨RJ2, "checkIndex", "(I[B)V"⟩
def RJ3 : String := "jdk/internal/util/Preconditions"
def TJ3 : u_T := fun k => match k with
  | _ => ("", "", "", false)
def tyJ3 : Nat → FieldType := fun k => match k with
  | _ => .int
abbrev wsJ30 : List Cond := u_ws RJ3 TJ3 0
theorem nmJ3 : ∀ a, a < 0 → ∀ b, b < 0 → a ≠ b → (TJ3 a).2.1 ≠ (TJ3 b).2.1 := by decide +kernel
theorem tyJ3_ok : ∀ k, k < 0 → parseFieldDescriptor (TJ3 k).2.2.1 = some (tyJ3 k) := by decide +kernel
abbrev cJ3_checkIndex_8e157 : ByteArray := prog_11_method_11_code
def yJ3_checkIndex_8e157 : MethodName := ⟨RJ3, "checkIndex", "(IILjava/util/function/BiFunction;)I"⟩
def RL : String := "SkyBulletinLaw"
abbrev cL_law : ByteArray := code
def yL_law : MethodName := ⟨RL, "law", "([I)Z"⟩
abbrev vwCl : List vw_C := [(RX0, TX0, 11), (RX1, TX1, 12), (RX2, TX2, 8), (RX3, TX3, 7), (RX4, TX4, 32)]
/-- the words that a callee may use: those of the tables that stay true -/
def jx_tb : List Cond := lw_tbl.filter goodWord
theorem jx_mem {w : Cond} (i : Nat) (h : lw_tbl[i]? = some w) (hg : goodWord w = true) : w ∈ jx_tb := List.mem_filter.mpr ⟨List.mem_of_getElem? h, hg⟩
theorem jx_tb_in : ∀ w ∈ jx_tb, w ∈ lw_tbl := fun w h => (List.mem_filter.mp h).1
theorem jx_tb_good : ∀ w ∈ jx_tb, goodWord w = true := fun w h => (List.mem_filter.mp h).2
set_option maxRecDepth 20000 in
theorem inlX0 : ∀ w ∈ u_ws RX0 TX0 11, w ∈ jx_tb := by
  intro w hw
  obtain ⟨k, hk, rfl⟩ := List.mem_map.mp hw
  have hk := List.mem_range.mp hk
  match k, hk with
  | 0, _ => exact jx_mem 189 (by decide +kernel) (by decide +kernel)
  | 1, _ => exact jx_mem 191 (by decide +kernel) (by decide +kernel)
  | 2, _ => exact jx_mem 193 (by decide +kernel) (by decide +kernel)
  | 3, _ => exact jx_mem 195 (by decide +kernel) (by decide +kernel)
  | 4, _ => exact jx_mem 197 (by decide +kernel) (by decide +kernel)
  | 5, _ => exact jx_mem 199 (by decide +kernel) (by decide +kernel)
  | 6, _ => exact jx_mem 201 (by decide +kernel) (by decide +kernel)
  | 7, _ => exact jx_mem 203 (by decide +kernel) (by decide +kernel)
  | 8, _ => exact jx_mem 205 (by decide +kernel) (by decide +kernel)
  | 9, _ => exact jx_mem 207 (by decide +kernel) (by decide +kernel)
  | 10, _ => exact jx_mem 209 (by decide +kernel) (by decide +kernel)
  | k + 11, hk => exact absurd hk (by omega)
set_option maxRecDepth 20000 in
theorem inlX1 : ∀ w ∈ u_ws RX1 TX1 12, w ∈ jx_tb := by
  intro w hw
  obtain ⟨k, hk, rfl⟩ := List.mem_map.mp hw
  have hk := List.mem_range.mp hk
  match k, hk with
  | 0, _ => exact jx_mem 133 (by decide +kernel) (by decide +kernel)
  | 1, _ => exact jx_mem 135 (by decide +kernel) (by decide +kernel)
  | 2, _ => exact jx_mem 137 (by decide +kernel) (by decide +kernel)
  | 3, _ => exact jx_mem 139 (by decide +kernel) (by decide +kernel)
  | 4, _ => exact jx_mem 141 (by decide +kernel) (by decide +kernel)
  | 5, _ => exact jx_mem 143 (by decide +kernel) (by decide +kernel)
  | 6, _ => exact jx_mem 145 (by decide +kernel) (by decide +kernel)
  | 7, _ => exact jx_mem 147 (by decide +kernel) (by decide +kernel)
  | 8, _ => exact jx_mem 149 (by decide +kernel) (by decide +kernel)
  | 9, _ => exact jx_mem 151 (by decide +kernel) (by decide +kernel)
  | 10, _ => exact jx_mem 153 (by decide +kernel) (by decide +kernel)
  | 11, _ => exact jx_mem 155 (by decide +kernel) (by decide +kernel)
  | k + 12, hk => exact absurd hk (by omega)
set_option maxRecDepth 20000 in
theorem inlX2 : ∀ w ∈ u_ws RX2 TX2 8, w ∈ jx_tb := by
  intro w hw
  obtain ⟨k, hk, rfl⟩ := List.mem_map.mp hw
  have hk := List.mem_range.mp hk
  match k, hk with
  | 0, _ => exact jx_mem 226 (by decide +kernel) (by decide +kernel)
  | 1, _ => exact jx_mem 228 (by decide +kernel) (by decide +kernel)
  | 2, _ => exact jx_mem 230 (by decide +kernel) (by decide +kernel)
  | 3, _ => exact jx_mem 232 (by decide +kernel) (by decide +kernel)
  | 4, _ => exact jx_mem 234 (by decide +kernel) (by decide +kernel)
  | 5, _ => exact jx_mem 236 (by decide +kernel) (by decide +kernel)
  | 6, _ => exact jx_mem 238 (by decide +kernel) (by decide +kernel)
  | 7, _ => exact jx_mem 240 (by decide +kernel) (by decide +kernel)
  | k + 8, hk => exact absurd hk (by omega)
set_option maxRecDepth 20000 in
theorem inlX3 : ∀ w ∈ u_ws RX3 TX3 7, w ∈ jx_tb := by
  intro w hw
  obtain ⟨k, hk, rfl⟩ := List.mem_map.mp hw
  have hk := List.mem_range.mp hk
  match k, hk with
  | 0, _ => exact jx_mem 250 (by decide +kernel) (by decide +kernel)
  | 1, _ => exact jx_mem 252 (by decide +kernel) (by decide +kernel)
  | 2, _ => exact jx_mem 254 (by decide +kernel) (by decide +kernel)
  | 3, _ => exact jx_mem 256 (by decide +kernel) (by decide +kernel)
  | 4, _ => exact jx_mem 258 (by decide +kernel) (by decide +kernel)
  | 5, _ => exact jx_mem 260 (by decide +kernel) (by decide +kernel)
  | 6, _ => exact jx_mem 262 (by decide +kernel) (by decide +kernel)
  | k + 7, hk => exact absurd hk (by omega)
set_option maxRecDepth 20000 in
theorem inlX4 : ∀ w ∈ u_ws RX4 TX4 32, w ∈ jx_tb := by
  intro w hw
  obtain ⟨k, hk, rfl⟩ := List.mem_map.mp hw
  have hk := List.mem_range.mp hk
  match k, hk with
  | 0, _ => exact jx_mem 689 (by decide +kernel) (by decide +kernel)
  | 1, _ => exact jx_mem 691 (by decide +kernel) (by decide +kernel)
  | 2, _ => exact jx_mem 693 (by decide +kernel) (by decide +kernel)
  | 3, _ => exact jx_mem 695 (by decide +kernel) (by decide +kernel)
  | 4, _ => exact jx_mem 697 (by decide +kernel) (by decide +kernel)
  | 5, _ => exact jx_mem 699 (by decide +kernel) (by decide +kernel)
  | 6, _ => exact jx_mem 701 (by decide +kernel) (by decide +kernel)
  | 7, _ => exact jx_mem 703 (by decide +kernel) (by decide +kernel)
  | 8, _ => exact jx_mem 705 (by decide +kernel) (by decide +kernel)
  | 9, _ => exact jx_mem 707 (by decide +kernel) (by decide +kernel)
  | 10, _ => exact jx_mem 709 (by decide +kernel) (by decide +kernel)
  | 11, _ => exact jx_mem 711 (by decide +kernel) (by decide +kernel)
  | 12, _ => exact jx_mem 713 (by decide +kernel) (by decide +kernel)
  | 13, _ => exact jx_mem 715 (by decide +kernel) (by decide +kernel)
  | 14, _ => exact jx_mem 717 (by decide +kernel) (by decide +kernel)
  | 15, _ => exact jx_mem 719 (by decide +kernel) (by decide +kernel)
  | 16, _ => exact jx_mem 721 (by decide +kernel) (by decide +kernel)
  | 17, _ => exact jx_mem 723 (by decide +kernel) (by decide +kernel)
  | 18, _ => exact jx_mem 725 (by decide +kernel) (by decide +kernel)
  | 19, _ => exact jx_mem 727 (by decide +kernel) (by decide +kernel)
  | 20, _ => exact jx_mem 729 (by decide +kernel) (by decide +kernel)
  | 21, _ => exact jx_mem 731 (by decide +kernel) (by decide +kernel)
  | 22, _ => exact jx_mem 733 (by decide +kernel) (by decide +kernel)
  | 23, _ => exact jx_mem 735 (by decide +kernel) (by decide +kernel)
  | 24, _ => exact jx_mem 737 (by decide +kernel) (by decide +kernel)
  | 25, _ => exact jx_mem 739 (by decide +kernel) (by decide +kernel)
  | 26, _ => exact jx_mem 741 (by decide +kernel) (by decide +kernel)
  | 27, _ => exact jx_mem 743 (by decide +kernel) (by decide +kernel)
  | 28, _ => exact jx_mem 745 (by decide +kernel) (by decide +kernel)
  | 29, _ => exact jx_mem 747 (by decide +kernel) (by decide +kernel)
  | 30, _ => exact jx_mem 749 (by decide +kernel) (by decide +kernel)
  | 31, _ => exact jx_mem 751 (by decide +kernel) (by decide +kernel)
  | k + 32, hk => exact absurd hk (by omega)
end
section
/-! ===== A FIXED WORLD OF CELLS. A state is (ints, cells): .1 c i the int at place i of cell c, .2 c i the cell that place i of cell c refers to. A layout is (kind and length of each cell, how many cells): kinds 0 to 4 the classes of vwCl, 5 char[], 6 int[], 7 Group[]. ===== -/
abbrev jx_St : Type := (Nat → Nat → Int32) × (Nat → Nat → Nat)
abbrev jx_Ly : Type := (Nat → Nat × Nat) × Nat
/-- class numbers and slots, addresses of the cells, array classes (char, int, Group), addresses of the literals and of their bytes -/
abbrev jx_Dt : Type := va_G × (Nat → Nat) × (ClassId × ClassId × ClassId) × (Nat → Nat) × (Nat → Nat)
def jx_u2 {α : Type} (f : Nat → Nat → α) (c i : Nat) (v : α) : Nat → Nat → α := fun c' i' => if c' = c ∧ i' = i then v else f c' i'
def jx_sI (s : jx_St) (c i : Nat) (v : Int32) : jx_St := (jx_u2 s.1 c i v, s.2)
def jx_sR (s : jx_St) (c i : Nat) (v : Nat) : jx_St := (s.1, jx_u2 s.2 c i v)
def jx_nf (k : Nat) : Nat := ([11, 12, 8, 7, 32] : List Nat).getD k 0
def jx_isR (k i : Nat) : Bool := (([[6, 8, 9], [10, 11], [0, 4, 7], [0, 2, 4, 5, 6], [0, 2, 3, 14, 15, 16, 17, 24, 25, 26, 27, 28, 30]] : List (List Nat)).getD k []).contains i
def jx_F (D : jx_Dt) (s : jx_St) (k c : Nat) : List Value := (List.range (jx_nf k)).map (fun i => if jx_isR k i = true then Value.ref (D.2.1 (s.2 c i)) else Value.int (s.1 c i))
def jx_E (D : jx_Dt) (L : jx_Ly) (s : jx_St) (c : Nat) : va_E :=
  if (L.1 c).1 ≤ 4 then .inr ((L.1 c).1, jx_F D s (L.1 c).1 c)
  else if (L.1 c).1 = 5 then .inl (D.2.2.1.1, (L.1 c).2, .inl (s.1 c))
  else if (L.1 c).1 = 6 then .inl (D.2.2.1.2.1, (L.1 c).2, .inl (s.1 c))
  else .inl (D.2.2.1.2.2, (L.1 c).2, .inr (.inr (.inr (.inr (fun i => some (D.2.1 (s.2 c i)))))))
def jx_w (D : jx_Dt) (L : jx_Ly) (s : jx_St) : va_W := (List.range L.2).map (fun c => (D.2.1 c, jx_E D L s c))
def jx_A (D : jx_Dt) (L : jx_Ly) : Nat → Prop := fun q => ∃ c : Nat, c < L.2 ∧ q = D.2.1 c
def jx_In (D : jx_Dt) (L : jx_Ly) : Prop := ∀ i j : Nat, i < L.2 → j < L.2 → D.2.1 i = D.2.1 j → i = j
def jx_tys (D : jx_Dt) : List (ClassId × FieldType) := [(D.2.2.1.1, .char), (D.2.2.1.2.1, .int), (D.2.2.1.2.2, .object RX1)]
/-- the literals of the class: their places in its constant pool, their texts, their bytes -/
def jx_six : List Nat := [70, 76, 199, 201, 212, 230, 236, 238, 240, 251, 253, 255, 265, 193, 116, 121, 123, 128, 149]
def jx_stx : List String := ["METAR", "TAF", "VRB", "KT", "CAVOK", "MIBCPRDRBLSHTSFZ", "DZRASNSGPLGRGSBRFGFUVADUSAHZPOSQFCSSDS", "NSC", "VV", "CB", "TCU", "FEWSCTBKNOVC", "M", "FM", "BECMG", "TEMPO", "PROB30", "PROB40", "NSW"]
def jx_sby : List (List Int32) := [[77, 69, 84, 65, 82], [84, 65, 70], [86, 82, 66], [75, 84], [67, 65, 86, 79, 75], [77, 73, 66, 67, 80, 82, 68, 82, 66, 76, 83, 72, 84, 83, 70, 90], [68, 90, 82, 65, 83, 78, 83, 71, 80, 76, 71, 82, 71, 83, 66, 82, 70, 71, 70, 85, 86, 65, 68, 85, 83, 65, 72, 90, 80, 79, 83, 81, 70, 67, 83, 83, 68, 83], [78, 83, 67], [86, 86], [67, 66], [84, 67, 85], [70, 69, 87, 83, 67, 84, 66, 75, 78, 79, 86, 67], [77], [70, 77], [66, 69, 67, 77, 71], [84, 69, 77, 80, 79], [80, 82, 79, 66, 51, 48], [80, 82, 79, 66, 52, 48], [78, 83, 87]]
def jx_sln : List Nat := [5, 3, 3, 2, 5, 16, 38, 3, 2, 2, 3, 12, 1, 2, 5, 5, 6, 6, 3]
def jx_Sr (D : jx_Dt) (L : jx_Ly) (U : State) (H : Heap) : Prop :=
  vk_S 19 jx_sln jx_sby D.2.2.2.1 D.2.2.2.2 (jx_A D L) U H ∧ (∀ i : Nat, i < 19 → vk_R RX2 (jx_six.getD i 0) (jx_stx.getD i "") (D.2.2.2.1 i) U) ∧ va_Z "java/lang/String" "COMPACT_STRINGS" "Z" (.int 1) (jx_A D L) U H ∧ va_Zq "jdk/internal/util/Preconditions" "SIOOBE_FORMATTER" "Ljava/util/function/BiFunction;" (jx_A D L) U H
/-- the world in a state of the machine -/
def jx_B (D : jx_Dt) (L : jx_Ly) (u : jx_St) (U : State) : Prop := va_P D.1 vwCl (jx_w D L u) U.heap ∧ va_K D.1 vwCl (jx_tys D) U ∧ jx_In D L ∧ jx_Sr D L U U.heap
theorem jx_Sr_warm {D : jx_Dt} {L : jx_Ly} {s U : State} {H : Heap} (hW : s.WarmedH U.vm) (h : jx_Sr D L s H) : jx_Sr D L U H :=
  ⟨h.1.moved hW.alike, fun i hi => (h.2.1 i hi).warm hW, h.2.2.1.moved hW.alike, h.2.2.2.moved hW.alike⟩
theorem jx_Sr_kept {D : jx_Dt} {L : jx_Ly} {U : State} {H H1 : Heap} (h : jx_Sr D L U H) (hq : ∀ a : Nat, a < H.size → ¬ jx_A D L a → H1[a]? = H[a]?) : jx_Sr D L U H1 :=
  ⟨h.1.kept hq, h.2.1, h.2.2.1.kept hq, h.2.2.2.kept hq⟩
theorem jx_B_same {D : jx_Dt} {L : jx_Ly} {u : jx_St} {U V : State} (hh : V.heap = U.heap) (hv : V.vm = U.vm) (h : jx_B D L u U) : jx_B D L u V := by
  obtain ⟨h1, h2, h3, h4, h5, h6, h7⟩ := h
  have hal : U.vm.Alike V.vm := by rw [hv]; exact Vm.Alike.refl _
  exact ⟨by rw [hh]; exact h1, va_K.moved hal h2, h3, by rw [hh]; exact h4.moved hal, fun i hi => (h5 i hi).same hv, by rw [hh]; exact h6.moved hal, by rw [hh]; exact h7.moved hal⟩
theorem jx_w_at {D : jx_Dt} {L : jx_Ly} {s : jx_St} {c : Nat} (h : c < L.2) : (jx_w D L s)[c]? = some (D.2.1 c, jx_E D L s c) := by
  simp [jx_w, h]
theorem jx_D_of {D : jx_Dt} {L : jx_Ly} {s : jx_St} (h : jx_In D L) : va_D (jx_A D L) (jx_w D L s) := by
  refine ⟨fun i j p q hi hj e => ?_, fun k q hk => ?_⟩
  · have hi' : i < L.2 := by
      have := (List.getElem?_eq_some_iff.mp hi).1
      simpa [jx_w] using this
    have hj' : j < L.2 := by
      have := (List.getElem?_eq_some_iff.mp hj).1
      simpa [jx_w] using this
    rw [jx_w_at hi'] at hi
    rw [jx_w_at hj'] at hj
    cases hi
    cases hj
    exact h i j hi' hj' e
  · have hk' : k < L.2 := by
      have := (List.getElem?_eq_some_iff.mp hk).1
      simpa [jx_w] using this
    rw [jx_w_at hk'] at hk
    cases hk
    exact ⟨k, hk', rfl⟩
theorem jx_w_set {D : jx_Dt} {L : jx_Ly} {s s2 : jx_St} {c : Nat} {e : va_E} (hc : c < L.2) (h1 : jx_E D L s2 c = e) (h2 : ∀ c' : Nat, c' ≠ c → jx_E D L s2 c' = jx_E D L s c') : (jx_w D L s).set c (D.2.1 c, e) = jx_w D L s2 := by
  apply List.ext_getElem?
  intro i
  rw [List.getElem?_set]
  by_cases hi : c = i
  · subst hi
    rw [if_pos rfl, jx_w_at hc, h1]
    simp [jx_w, hc]
  · rw [if_neg hi]
    by_cases hl : i < L.2
    · rw [jx_w_at hl, jx_w_at hl, h2 i (fun e => hi e.symm)]
    · simp [jx_w, hl]
theorem jx_E_obj {D : jx_Dt} {L : jx_Ly} {s : jx_St} {c k : Nat} (h : (L.1 c).1 = k) (hk : k ≤ 4) : jx_E D L s c = .inr (k, jx_F D s k c) := by
  unfold jx_E; rw [h, if_pos hk]
theorem jx_E_chr {D : jx_Dt} {L : jx_Ly} {s : jx_St} {c : Nat} (h : (L.1 c).1 = 5) : jx_E D L s c = .inl (D.2.2.1.1, (L.1 c).2, .inl (s.1 c)) := by
  unfold jx_E; rw [h]; rfl
theorem jx_E_int {D : jx_Dt} {L : jx_Ly} {s : jx_St} {c : Nat} (h : (L.1 c).1 = 6) : jx_E D L s c = .inl (D.2.2.1.2.1, (L.1 c).2, .inl (s.1 c)) := by
  unfold jx_E; rw [h]; rfl
theorem jx_E_grp {D : jx_Dt} {L : jx_Ly} {s : jx_St} {c : Nat} (h : (L.1 c).1 = 7) : jx_E D L s c = .inl (D.2.2.1.2.2, (L.1 c).2, .inr (.inr (.inr (.inr (fun i => some (D.2.1 (s.2 c i))))))) := by
  unfold jx_E; rw [h]; rfl
theorem jx_F_len {D : jx_Dt} {s : jx_St} {k c : Nat} : (jx_F D s k c).length = jx_nf k := by simp [jx_F]
theorem jx_F_int {D : jx_Dt} {s : jx_St} {k c f : Nat} (hf : f < jx_nf k) (hr : jx_isR k f = false) : (jx_F D s k c)[f]? = some (.int (s.1 c f)) := by
  simp [jx_F, hf, hr]
theorem jx_F_ref {D : jx_Dt} {s : jx_St} {k c f : Nat} (hf : f < jx_nf k) (hr : jx_isR k f = true) : (jx_F D s k c)[f]? = some (.ref (D.2.1 (s.2 c f))) := by
  simp [jx_F, hf, hr]
theorem jx_F_setI {D : jx_Dt} {s : jx_St} {k c f : Nat} {v : Int32} (hr : jx_isR k f = false) : (jx_F D s k c).set f (.int v) = jx_F D (jx_sI s c f v) k c := by
  apply List.ext_getElem?
  intro i
  rw [List.getElem?_set]
  by_cases hi : f = i
  · subst hi
    rw [if_pos rfl]
    by_cases hl : f < jx_nf k
    · rw [if_pos (by rw [jx_F_len]; exact hl), jx_F_int hl hr]
      simp [jx_sI, jx_u2]
    · rw [if_neg (by rw [jx_F_len]; exact hl)]
      simp [jx_F, hl]
  · rw [if_neg hi]
    have hi2 : ¬ i = f := fun e => hi e.symm
    by_cases hl : i < jx_nf k <;> simp [jx_F, jx_sI, jx_u2, hi2, hl]
theorem jx_F_setR {D : jx_Dt} {s : jx_St} {k c f v : Nat} (hr : jx_isR k f = true) : (jx_F D s k c).set f (.ref (D.2.1 v)) = jx_F D (jx_sR s c f v) k c := by
  apply List.ext_getElem?
  intro i
  rw [List.getElem?_set]
  by_cases hi : f = i
  · subst hi
    rw [if_pos rfl]
    by_cases hl : f < jx_nf k
    · rw [if_pos (by rw [jx_F_len]; exact hl), jx_F_ref hl hr]
      simp [jx_sR, jx_u2]
    · rw [if_neg (by rw [jx_F_len]; exact hl)]
      simp [jx_F, hl]
  · rw [if_neg hi]
    have hi2 : ¬ i = f := fun e => hi e.symm
    by_cases hl : i < jx_nf k <;> simp [jx_F, jx_sR, jx_u2, hi2, hl]
theorem jx_E_otherI {D : jx_Dt} {L : jx_Ly} {s : jx_St} {c f : Nat} {v : Int32} {c' : Nat} (h : c' ≠ c) : jx_E D L (jx_sI s c f v) c' = jx_E D L s c' := by
  have e1 : (jx_sI s c f v).1 c' = s.1 c' := by funext i; simp [jx_sI, jx_u2, h]
  have e2 : (jx_sI s c f v).2 = s.2 := rfl
  unfold jx_E jx_F
  rw [e1, e2]
theorem jx_E_otherR {D : jx_Dt} {L : jx_Ly} {s : jx_St} {c f v : Nat} {c' : Nat} (h : c' ≠ c) : jx_E D L (jx_sR s c f v) c' = jx_E D L s c' := by
  have e1 : (jx_sR s c f v).2 c' = s.2 c' := by funext i; simp [jx_sR, jx_u2, h]
  have e2 : (jx_sR s c f v).1 = s.1 := rfl
  unfold jx_E jx_F
  rw [e1, e2]
theorem jx_upd_row {s : jx_St} {c i : Nat} {v : Int32} : upd (s.1 c) i v = (jx_sI s c i v).1 c := by
  funext j; simp [jx_sI, jx_u2, upd]
end
section
/-! ===== THE JUDGEMENT: a method's body over a fixed world, and a row an instruction ===== -/
/-- program, launch, environment, room, start, method, arguments, frames below, its row, its code, its locals, what is to be reached -/
abbrev jx_X : Type := Program × Launch × Env × Room × State × MethodId × Array Value × List Frame × Method × Code × Nat × (State → Prop)
abbrev jx_W (X : jx_X) (H : Heap) (locs : List Loc) (g : JFrame) : Prop := W X.1 X.2.1 X.2.2.1 X.2.2.2.1 X.2.2.2.2.1 X.2.2.2.2.2.1 X.2.2.2.2.2.2.1 X.2.2.2.2.2.2.2.1 X.2.2.2.2.2.2.2.2.1 X.2.2.2.2.2.2.2.2.2.1 H locs 0 0 X.2.2.2.2.2.2.2.2.2.2.2 g
abbrev jx_s (X : jx_X) : State := X.2.2.2.2.1
abbrev jx_m (X : jx_X) : MethodId := X.2.2.2.2.2.1
abbrev jx_ar (X : jx_X) : Array Value := X.2.2.2.2.2.2.1
abbrev jx_be (X : jx_X) : List Frame := X.2.2.2.2.2.2.2.1
abbrev jx_me (X : jx_X) : Method := X.2.2.2.2.2.2.2.2.1
abbrev jx_co (X : jx_X) : Code := X.2.2.2.2.2.2.2.2.2.1
abbrev jx_nL (X : jx_X) : Nat := X.2.2.2.2.2.2.2.2.2.2.1
abbrev jx_Q (X : jx_X) : State → Prop := X.2.2.2.2.2.2.2.2.2.2.2
def jx_J (D : jx_Dt) (L : jx_Ly) (X : jx_X) (pc : Nat) (lv : List (Nat × Value)) (st : List Value) (u : jx_St) : Prop :=
  ∀ (H : Heap) (locs : List Loc) (ls : Array Slot), va_P D.1 vwCl (jx_w D L u) H → va_S (jx_A D L) (jx_s X).heap H locs → lv_has ls (jx_nL X) lv → jx_W X H locs (F0 (jx_m X) pc ls st)
/-- what is known in a body: its code cc, its class own, its answer's type, its room, what it owes -/
def jx_K (D : jx_Dt) (L : jx_Ly) (X : jx_X) (cc : ByteArray) (own : String) (nL : Nat) (ret : Option FieldType) (rm : Room) (Qc : Array Value → State → Outcome → State → Prop) : Prop :=
  X.1.tables.exec = Jvm.exec ∧ (jx_co X).code = cc ∧ (jx_co X).maxLocals = nL ∧ (jx_s X).vm.findClass own = some (jx_m X).cls ∧ (∀ w ∈ jx_tb, w.before (jx_ar X) (jx_s X) = true) ∧ (jx_me X).locks = false ∧ (jx_me X).sig.returnType = ret ∧ va_K D.1 vwCl (jx_tys D) (jx_s X) ∧ jx_In D L ∧ jx_Sr D L (jx_s X) (jx_s X).heap ∧ jx_nL X = nL ∧ X.2.2.2.1 = rm ∧ jx_Q X = MQ (jx_be X) Qc (jx_ar X) (jx_s X) 0 0 (jx_A D L)
def jx_Met (l : Launch) (y : MethodName) (cc : ByteArray) (maxL : Nat) (ret : Option FieldType) (rm : Room) (D : jx_Dt) (L : jx_Ly) (args : List Value) (u : jx_St) (Qc : Array Value → State → Outcome → State → Prop) : Prop :=
  Met l y (.code y cc maxL ret :: jx_tb) rm (va_Pc args (fun U => jx_B D L u U)) Qc 0 0 (jx_A D L)
abbrev jx_Qi (D : jx_Dt) (L : jx_Ly) (post : Int32 → jx_St → Prop) : Array Value → State → Outcome → State → Prop := va_Qi post (jx_B D L) (jx_A D L)
abbrev jx_Ql (D : jx_Dt) (L : jx_Ly) (post : Int64 → jx_St → Prop) : Array Value → State → Outcome → State → Prop := va_Ql post (jx_B D L) (jx_A D L)
abbrev jx_Qv (D : jx_Dt) (L : jx_Ly) (post : jx_St → Prop) : Array Value → State → Outcome → State → Prop := va_Qv post (jx_B D L) (jx_A D L)
theorem jx_ofJ {l : Launch} {y : MethodName} {cc : ByteArray} {maxL : Nat} {ret : Option FieldType} {rm : Room} {D : jx_Dt} {L : jx_Ly} {args : List Value} {u : jx_St} {Qc : Array Value → State → Outcome → State → Prop}
    (hy : plainName y.cls = true) (hn : (lg_sl args).length ≤ maxL) (hJ : ∀ X : jx_X, X.2.1 = l → jx_K D L X cc y.cls maxL ret rm Qc → jx_J D L X 0 (lv_args 0 args) [] u) : jx_Met l y cc maxL ret rm D L args u Qc := by
  refine Met.ofW (cc := cc) (maxL := maxL) (ret := ret) hy rfl ?_
  intro p e s m av below meth c s₁ B hml hv
  obtain ⟨rfl, hP, hK, hI, hR⟩ := hv
  have hts := atoms_spec (ws := Cond.code y cc maxL ret :: jx_tb) B.pre
  have hown : s.vm.findClass y.cls = some m.cls := findClass_of_methodNamed B.named
  have hl := lv_entry args (n := maxL) hn
  rw [lg_entry_eq]
  exact hJ (p, l, e, (headSpec (Cond.code y cc maxL ret :: jx_tb) rm).room, s, m, args.toArray, below, meth, c, maxL, MQ below Qc args.toArray s 0 0 (jx_A D L)) rfl
    ⟨B.exec, B.bytes, hml, hown, fun w hw => hts w (List.mem_cons_of_mem _ hw), B.notSynchronized, B.returns, hK, hI, hR, rfl, rfl, rfl⟩ s.heap [] _ hP va_S.rf hl
section JXROWS
variable {D : jx_Dt} {L : jx_Ly} {X : jx_X} {cc : ByteArray} {own : String} {nL : Nat} {ret : Option FieldType} {rm : Room} {Qc : Array Value → State → Outcome → State → Prop} {pc : Nat} {lv : List (Nat × Value)} {st : List Value} {u : jx_St}
theorem jx_sub {lv' : List (Nat × Value)} (ks : List Nat) (h : lv_pick lv ks = lv') (k : jx_J D L X pc lv' st u) : jx_J D L X pc lv st u :=
  fun H locs ls hP hS hl => k H locs ls hP hS (lv_sub hl ks h)
/-- a computed number gets a name -/
theorem jx_eqs {st' : List Value} (h : st = st') (k : jx_J D L X pc lv st' u) : jx_J D L X pc lv st u := h ▸ k
theorem jx_equ {u' : jx_St} (h : u = u') (k : jx_J D L X pc lv st u') : jx_J D L X pc lv st u := h ▸ k
theorem jx_iconst (pc' : Nat) (hX : jx_K D L X cc own nL ret rm Qc) {n : Int} (v : Int32) (hv : Int32.ofInt n = v) (hd : decode cc pc = .ok (.iconst n, 1)) (hp : pc + 1 = pc') (k : jx_J D L X pc' lv (.int v :: st) u) : jx_J D L X pc lv (st) u := by
  subst hp
  exact fun H locs ls hP hS hl => lv_iconst hX.1 hX.2.1 hd hv (k H locs ls hP hS hl)
theorem jx_bipush (pc' : Nat) (hX : jx_K D L X cc own nL ret rm Qc) {n : Int} (v : Int32) (hv : (Int8.ofInt n).toInt32 = v) (hd : decode cc pc = .ok (.bipush n, 2)) (hp : pc + 2 = pc') (k : jx_J D L X pc' lv (.int v :: st) u) : jx_J D L X pc lv (st) u := by
  subst hp
  exact fun H locs ls hP hS hl => lv_bipush hX.1 hX.2.1 hd hv (k H locs ls hP hS hl)
theorem jx_sipush (pc' : Nat) (hX : jx_K D L X cc own nL ret rm Qc) {n : Int} (v : Int32) (hv : (Int16.ofInt n).toInt32 = v) (hd : decode cc pc = .ok (.sipush n, 3)) (hp : pc + 3 = pc') (k : jx_J D L X pc' lv (.int v :: st) u) : jx_J D L X pc lv (st) u := by
  subst hp
  exact fun H locs ls hP hS hl => lv_sipush hX.1 hX.2.1 hd hv (k H locs ls hP hS hl)
theorem jx_lconst (pc' : Nat) (hX : jx_K D L X cc own nL ret rm Qc) {n : Fin 2} (v : Int64) (hv : Int64.ofNat (n : Nat) = v) (hd : decode cc pc = .ok (.lconst n, 1)) (hp : pc + 1 = pc') (k : jx_J D L X pc' lv (.long v :: st) u) : jx_J D L X pc lv (st) u := by
  subst hp
  exact fun H locs ls hP hS hl => lv_lconst hX.1 hX.2.1 hd hv (k H locs ls hP hS hl)
theorem jx_iload_n (pc' : Nat) (hX : jx_K D L X cc own nL ret rm Qc) (q : Nat) {k : Fin 4} {i : Nat} {x : Int32} (hq : lv[q]? = some (i, .int x)) (hi : (k : Nat) = i) (hd : decode cc pc = .ok (.iload_n k, 1)) (hp : pc + 1 = pc') (k : jx_J D L X pc' lv (.int x :: st) u) : jx_J D L X pc lv st u := by
  subst hp
  exact fun H locs ls hP hS hl => lv_iload_n hX.1 hX.2.1 hd hi (lv_at hl q hq) (k H locs ls hP hS hl)
theorem jx_iload (pc' : Nat) (hX : jx_K D L X cc own nL ret rm Qc) (q : Nat) {i : Nat} {x : Int32} (hq : lv[q]? = some (i, .int x)) (hd : decode cc pc = .ok (.iload i, 2)) (hp : pc + 2 = pc') (k : jx_J D L X pc' lv (.int x :: st) u) : jx_J D L X pc lv st u := by
  subst hp
  exact fun H locs ls hP hS hl => lv_iload hX.1 hX.2.1 hd (lv_at hl q hq) (k H locs ls hP hS hl)
theorem jx_istore_n (pc' : Nat) (hX : jx_K D L X cc own nL ret rm Qc) {k : Fin 4} {i : Nat} {x : Int32} (lv' : List (Nat × Value)) (hi : (k : Nat) = i) (hn : i < nL) (hl' : (i, Value.int x) :: lv.filter (fun q => !(q.1 == i) && !(q.1 + 1 == i && q.2.category == 2)) = lv') (hd : decode cc pc = .ok (.istore_n k, 1)) (hp : pc + 1 = pc') (k : jx_J D L X pc' lv' st u) : jx_J D L X pc lv (.int x :: st) u := by
  subst hp
  exact fun H locs ls hP hS hl => lv_istore_n hX.1 hX.2.1 hd hi hl (by rw [hX.2.2.2.2.2.2.2.2.2.2.1]; exact hn) hl' (fun ls' hl2 => k H locs ls' hP hS hl2)
theorem jx_istore (pc' : Nat) (hX : jx_K D L X cc own nL ret rm Qc) {i : Nat} {x : Int32} (lv' : List (Nat × Value)) (hn : i < nL) (hl' : (i, Value.int x) :: lv.filter (fun q => !(q.1 == i) && !(q.1 + 1 == i && q.2.category == 2)) = lv') (hd : decode cc pc = .ok (.istore i, 2)) (hp : pc + 2 = pc') (k : jx_J D L X pc' lv' st u) : jx_J D L X pc lv (.int x :: st) u := by
  subst hp
  exact fun H locs ls hP hS hl => lv_istore hX.1 hX.2.1 hd hl (by rw [hX.2.2.2.2.2.2.2.2.2.2.1]; exact hn) hl' (fun ls' hl2 => k H locs ls' hP hS hl2)
theorem jx_lload_n (pc' : Nat) (hX : jx_K D L X cc own nL ret rm Qc) (q : Nat) {k : Fin 4} {i : Nat} {x : Int64} (hq : lv[q]? = some (i, .long x)) (hi : (k : Nat) = i) (hd : decode cc pc = .ok (.lload_n k, 1)) (hp : pc + 1 = pc') (k : jx_J D L X pc' lv (.long x :: st) u) : jx_J D L X pc lv st u := by
  subst hp
  exact fun H locs ls hP hS hl => lv_lload_n hX.1 hX.2.1 hd hi (lv_at hl q hq) (k H locs ls hP hS hl)
theorem jx_lload (pc' : Nat) (hX : jx_K D L X cc own nL ret rm Qc) (q : Nat) {i : Nat} {x : Int64} (hq : lv[q]? = some (i, .long x)) (hd : decode cc pc = .ok (.lload i, 2)) (hp : pc + 2 = pc') (k : jx_J D L X pc' lv (.long x :: st) u) : jx_J D L X pc lv st u := by
  subst hp
  exact fun H locs ls hP hS hl => lv_lload hX.1 hX.2.1 hd (lv_at hl q hq) (k H locs ls hP hS hl)
theorem jx_lstore_n (pc' : Nat) (hX : jx_K D L X cc own nL ret rm Qc) {k : Fin 4} {i : Nat} {x : Int64} (lv' : List (Nat × Value)) (hi : (k : Nat) = i) (hn : i + 1 < nL) (hl' : (i, Value.long x) :: lv.filter (fun q => !(q.1 == i) && (!(q.1 == i + 1) && !(q.1 + 1 == i && q.2.category == 2))) = lv') (hd : decode cc pc = .ok (.lstore_n k, 1)) (hp : pc + 1 = pc') (k : jx_J D L X pc' lv' st u) : jx_J D L X pc lv (.long x :: st) u := by
  subst hp
  exact fun H locs ls hP hS hl => lv_lstore_n hX.1 hX.2.1 hd hi hl (by rw [hX.2.2.2.2.2.2.2.2.2.2.1]; exact hn) hl' (fun ls' hl2 => k H locs ls' hP hS hl2)
theorem jx_lstore (pc' : Nat) (hX : jx_K D L X cc own nL ret rm Qc) {i : Nat} {x : Int64} (lv' : List (Nat × Value)) (hn : i + 1 < nL) (hl' : (i, Value.long x) :: lv.filter (fun q => !(q.1 == i) && (!(q.1 == i + 1) && !(q.1 + 1 == i && q.2.category == 2))) = lv') (hd : decode cc pc = .ok (.lstore i, 2)) (hp : pc + 2 = pc') (k : jx_J D L X pc' lv' st u) : jx_J D L X pc lv (.long x :: st) u := by
  subst hp
  exact fun H locs ls hP hS hl => lv_lstore hX.1 hX.2.1 hd hl (by rw [hX.2.2.2.2.2.2.2.2.2.2.1]; exact hn) hl' (fun ls' hl2 => k H locs ls' hP hS hl2)
theorem jx_aload_n (pc' : Nat) (hX : jx_K D L X cc own nL ret rm Qc) (q : Nat) {k : Fin 4} {i : Nat} {x : Nat} (hq : lv[q]? = some (i, .ref x)) (hi : (k : Nat) = i) (hd : decode cc pc = .ok (.aload_n k, 1)) (hp : pc + 1 = pc') (k : jx_J D L X pc' lv (.ref x :: st) u) : jx_J D L X pc lv st u := by
  subst hp
  exact fun H locs ls hP hS hl => lv_aload_n hX.1 hX.2.1 hd hi (lv_at hl q hq) (k H locs ls hP hS hl)
theorem jx_aload (pc' : Nat) (hX : jx_K D L X cc own nL ret rm Qc) (q : Nat) {i : Nat} {x : Nat} (hq : lv[q]? = some (i, .ref x)) (hd : decode cc pc = .ok (.aload i, 2)) (hp : pc + 2 = pc') (k : jx_J D L X pc' lv (.ref x :: st) u) : jx_J D L X pc lv st u := by
  subst hp
  exact fun H locs ls hP hS hl => lv_aload hX.1 hX.2.1 hd (lv_at hl q hq) (k H locs ls hP hS hl)
theorem jx_astore_n (pc' : Nat) (hX : jx_K D L X cc own nL ret rm Qc) {k : Fin 4} {i : Nat} {x : Nat} (lv' : List (Nat × Value)) (hi : (k : Nat) = i) (hn : i < nL) (hl' : (i, Value.ref x) :: lv.filter (fun q => !(q.1 == i) && !(q.1 + 1 == i && q.2.category == 2)) = lv') (hd : decode cc pc = .ok (.astore_n k, 1)) (hp : pc + 1 = pc') (k : jx_J D L X pc' lv' st u) : jx_J D L X pc lv (.ref x :: st) u := by
  subst hp
  exact fun H locs ls hP hS hl => lv_astore_n hX.1 hX.2.1 hd hi hl (by rw [hX.2.2.2.2.2.2.2.2.2.2.1]; exact hn) hl' (fun ls' hl2 => k H locs ls' hP hS hl2)
theorem jx_astore (pc' : Nat) (hX : jx_K D L X cc own nL ret rm Qc) {i : Nat} {x : Nat} (lv' : List (Nat × Value)) (hn : i < nL) (hl' : (i, Value.ref x) :: lv.filter (fun q => !(q.1 == i) && !(q.1 + 1 == i && q.2.category == 2)) = lv') (hd : decode cc pc = .ok (.astore i, 2)) (hp : pc + 2 = pc') (k : jx_J D L X pc' lv' st u) : jx_J D L X pc lv (.ref x :: st) u := by
  subst hp
  exact fun H locs ls hP hS hl => lv_astore hX.1 hX.2.1 hd hl (by rw [hX.2.2.2.2.2.2.2.2.2.2.1]; exact hn) hl' (fun ls' hl2 => k H locs ls' hP hS hl2)
theorem jx_iinc (pc' : Nat) (hX : jx_K D L X cc own nL ret rm Qc) (q : Nat) {i : Nat} {n : Int} {x : Int32} (v : Int32) (lv' : List (Nat × Value)) (hq : lv[q]? = some (i, .int x)) (hv : x + Int32.ofInt n = v) (hn : i < nL) (hl' : (i, Value.int v) :: lv.filter (fun q => !(q.1 == i) && !(q.1 + 1 == i && q.2.category == 2)) = lv') (hd : decode cc pc = .ok (.iinc i n, 3)) (hp : pc + 3 = pc') (k : jx_J D L X pc' lv' st u) : jx_J D L X pc lv st u := by
  subst hp
  exact fun H locs ls hP hS hl => lv_iinc hX.1 hX.2.1 hd hl hq hv (by rw [hX.2.2.2.2.2.2.2.2.2.2.1]; exact hn) hl' (fun ls' hl2 => k H locs ls' hP hS hl2)
theorem jx_iadd (pc' : Nat) (hX : jx_K D L X cc own nL ret rm Qc) {x y : Int32} (hd : decode cc pc = .ok (.iadd, 1)) (hp : pc + 1 = pc') (k : jx_J D L X pc' lv (.int (x + y) :: st) u) : jx_J D L X pc lv (.int y :: .int x :: st) u := by
  subst hp
  exact fun H locs ls hP hS hl => lv_iadd hX.1 hX.2.1 hd  (k H locs ls hP hS hl)
theorem jx_isub (pc' : Nat) (hX : jx_K D L X cc own nL ret rm Qc) {x y : Int32} (hd : decode cc pc = .ok (.isub, 1)) (hp : pc + 1 = pc') (k : jx_J D L X pc' lv (.int (x - y) :: st) u) : jx_J D L X pc lv (.int y :: .int x :: st) u := by
  subst hp
  exact fun H locs ls hP hS hl => lv_isub hX.1 hX.2.1 hd  (k H locs ls hP hS hl)
theorem jx_imul (pc' : Nat) (hX : jx_K D L X cc own nL ret rm Qc) {x y : Int32} (hd : decode cc pc = .ok (.imul, 1)) (hp : pc + 1 = pc') (k : jx_J D L X pc' lv (.int (x * y) :: st) u) : jx_J D L X pc lv (.int y :: .int x :: st) u := by
  subst hp
  exact fun H locs ls hP hS hl => lv_imul hX.1 hX.2.1 hd  (k H locs ls hP hS hl)
theorem jx_iand (pc' : Nat) (hX : jx_K D L X cc own nL ret rm Qc) {x y : Int32} (hd : decode cc pc = .ok (.iand, 1)) (hp : pc + 1 = pc') (k : jx_J D L X pc' lv (.int (x &&& y) :: st) u) : jx_J D L X pc lv (.int y :: .int x :: st) u := by
  subst hp
  exact fun H locs ls hP hS hl => lv_iand hX.1 hX.2.1 hd  (k H locs ls hP hS hl)
theorem jx_ior (pc' : Nat) (hX : jx_K D L X cc own nL ret rm Qc) {x y : Int32} (hd : decode cc pc = .ok (.ior, 1)) (hp : pc + 1 = pc') (k : jx_J D L X pc' lv (.int (x ||| y) :: st) u) : jx_J D L X pc lv (.int y :: .int x :: st) u := by
  subst hp
  exact fun H locs ls hP hS hl => lv_ior hX.1 hX.2.1 hd  (k H locs ls hP hS hl)
theorem jx_ixor (pc' : Nat) (hX : jx_K D L X cc own nL ret rm Qc) {x y : Int32} (hd : decode cc pc = .ok (.ixor, 1)) (hp : pc + 1 = pc') (k : jx_J D L X pc' lv (.int (x ^^^ y) :: st) u) : jx_J D L X pc lv (.int y :: .int x :: st) u := by
  subst hp
  exact fun H locs ls hP hS hl => lv_ixor hX.1 hX.2.1 hd  (k H locs ls hP hS hl)
theorem jx_ishl (pc' : Nat) (hX : jx_K D L X cc own nL ret rm Qc) {x y : Int32} (hd : decode cc pc = .ok (.ishl, 1)) (hp : pc + 1 = pc') (k : jx_J D L X pc' lv (.int (x <<< (y &&& 31)) :: st) u) : jx_J D L X pc lv (.int y :: .int x :: st) u := by
  subst hp
  exact fun H locs ls hP hS hl => lv_ishl hX.1 hX.2.1 hd  (k H locs ls hP hS hl)
theorem jx_ishr (pc' : Nat) (hX : jx_K D L X cc own nL ret rm Qc) {x y : Int32} (hd : decode cc pc = .ok (.ishr, 1)) (hp : pc + 1 = pc') (k : jx_J D L X pc' lv (.int (x >>> (y &&& 31)) :: st) u) : jx_J D L X pc lv (.int y :: .int x :: st) u := by
  subst hp
  exact fun H locs ls hP hS hl => lv_ishr hX.1 hX.2.1 hd  (k H locs ls hP hS hl)
theorem jx_idiv (pc' : Nat) (hX : jx_K D L X cc own nL ret rm Qc) {x y : Int32} (hne : ¬ y = 0) (hd : decode cc pc = .ok (.idiv, 1)) (hp : pc + 1 = pc') (k : jx_J D L X pc' lv (.int (x / y) :: st) u) : jx_J D L X pc lv (.int y :: .int x :: st) u := by
  subst hp
  exact fun H locs ls hP hS hl => lv_idiv hX.1 hX.2.1 hd hne (k H locs ls hP hS hl)
theorem jx_irem (pc' : Nat) (hX : jx_K D L X cc own nL ret rm Qc) {x y : Int32} (hne : ¬ y = 0) (hd : decode cc pc = .ok (.irem, 1)) (hp : pc + 1 = pc') (k : jx_J D L X pc' lv (.int (x - x / y * y) :: st) u) : jx_J D L X pc lv (.int y :: .int x :: st) u := by
  subst hp
  exact fun H locs ls hP hS hl => lv_irem hX.1 hX.2.1 hd hne (k H locs ls hP hS hl)
theorem jx_ineg (pc' : Nat) (hX : jx_K D L X cc own nL ret rm Qc) {x : Int32} (hd : decode cc pc = .ok (.ineg, 1)) (hp : pc + 1 = pc') (k : jx_J D L X pc' lv (.int (-x) :: st) u) : jx_J D L X pc lv (.int x :: st) u := by
  subst hp
  exact fun H locs ls hP hS hl => lv_ineg hX.1 hX.2.1 hd  (k H locs ls hP hS hl)
theorem jx_ladd (pc' : Nat) (hX : jx_K D L X cc own nL ret rm Qc) {x y : Int64} (hd : decode cc pc = .ok (.ladd, 1)) (hp : pc + 1 = pc') (k : jx_J D L X pc' lv (.long (x + y) :: st) u) : jx_J D L X pc lv (.long y :: .long x :: st) u := by
  subst hp
  exact fun H locs ls hP hS hl => lv_ladd hX.1 hX.2.1 hd  (k H locs ls hP hS hl)
theorem jx_lsub (pc' : Nat) (hX : jx_K D L X cc own nL ret rm Qc) {x y : Int64} (hd : decode cc pc = .ok (.lsub, 1)) (hp : pc + 1 = pc') (k : jx_J D L X pc' lv (.long (x - y) :: st) u) : jx_J D L X pc lv (.long y :: .long x :: st) u := by
  subst hp
  exact fun H locs ls hP hS hl => lv_lsub hX.1 hX.2.1 hd  (k H locs ls hP hS hl)
theorem jx_lmul (pc' : Nat) (hX : jx_K D L X cc own nL ret rm Qc) {x y : Int64} (hd : decode cc pc = .ok (.lmul, 1)) (hp : pc + 1 = pc') (k : jx_J D L X pc' lv (.long (x * y) :: st) u) : jx_J D L X pc lv (.long y :: .long x :: st) u := by
  subst hp
  exact fun H locs ls hP hS hl => lv_lmul hX.1 hX.2.1 hd  (k H locs ls hP hS hl)
theorem jx_land (pc' : Nat) (hX : jx_K D L X cc own nL ret rm Qc) {x y : Int64} (hd : decode cc pc = .ok (.land, 1)) (hp : pc + 1 = pc') (k : jx_J D L X pc' lv (.long (x &&& y) :: st) u) : jx_J D L X pc lv (.long y :: .long x :: st) u := by
  subst hp
  exact fun H locs ls hP hS hl => lv_land hX.1 hX.2.1 hd  (k H locs ls hP hS hl)
theorem jx_lor (pc' : Nat) (hX : jx_K D L X cc own nL ret rm Qc) {x y : Int64} (hd : decode cc pc = .ok (.lor, 1)) (hp : pc + 1 = pc') (k : jx_J D L X pc' lv (.long (x ||| y) :: st) u) : jx_J D L X pc lv (.long y :: .long x :: st) u := by
  subst hp
  exact fun H locs ls hP hS hl => lv_lor hX.1 hX.2.1 hd  (k H locs ls hP hS hl)
theorem jx_lshl (pc' : Nat) (hX : jx_K D L X cc own nL ret rm Qc) {x : Int64} {y : Int32} (hd : decode cc pc = .ok (.lshl, 1)) (hp : pc + 1 = pc') (k : jx_J D L X pc' lv (.long (x <<< (y.toInt64 &&& 63)) :: st) u) : jx_J D L X pc lv (.int y :: .long x :: st) u := by
  subst hp
  exact fun H locs ls hP hS hl => lv_lshl hX.1 hX.2.1 hd rfl (k H locs ls hP hS hl)
theorem jx_lshr (pc' : Nat) (hX : jx_K D L X cc own nL ret rm Qc) {x : Int64} {y : Int32} (hd : decode cc pc = .ok (.lshr, 1)) (hp : pc + 1 = pc') (k : jx_J D L X pc' lv (.long (x >>> (y.toInt64 &&& 63)) :: st) u) : jx_J D L X pc lv (.int y :: .long x :: st) u := by
  subst hp
  exact fun H locs ls hP hS hl => lv_lshr hX.1 hX.2.1 hd rfl (k H locs ls hP hS hl)
theorem jx_lcmp (pc' : Nat) (hX : jx_K D L X cc own nL ret rm Qc) {x y : Int64} (hd : decode cc pc = .ok (.lcmp, 1)) (hp : pc + 1 = pc') (k : jx_J D L X pc' lv (.int (lg_cmp x y) :: st) u) : jx_J D L X pc lv (.long y :: .long x :: st) u := by
  subst hp
  exact fun H locs ls hP hS hl => W.lcmp hX.1 hX.2.1 hd  (k H locs ls hP hS hl)
theorem jx_i2l (pc' : Nat) (hX : jx_K D L X cc own nL ret rm Qc) {x : Int32} (hd : decode cc pc = .ok (.i2l, 1)) (hp : pc + 1 = pc') (k : jx_J D L X pc' lv (.long x.toInt64 :: st) u) : jx_J D L X pc lv (.int x :: st) u := by
  subst hp
  exact fun H locs ls hP hS hl => lv_i2l hX.1 hX.2.1 hd rfl (k H locs ls hP hS hl)
theorem jx_l2i (pc' : Nat) (hX : jx_K D L X cc own nL ret rm Qc) {x : Int64} (hd : decode cc pc = .ok (.l2i, 1)) (hp : pc + 1 = pc') (k : jx_J D L X pc' lv (.int x.toInt32 :: st) u) : jx_J D L X pc lv (.long x :: st) u := by
  subst hp
  exact fun H locs ls hP hS hl => lv_l2i hX.1 hX.2.1 hd rfl (k H locs ls hP hS hl)
theorem jx_i2c (pc' : Nat) (hX : jx_K D L X cc own nL ret rm Qc) {x : Int32} (hd : decode cc pc = .ok (.i2c, 1)) (hp : pc + 1 = pc') (k : jx_J D L X pc' lv (.int (x.toUInt32 % 65536).toInt32 :: st) u) : jx_J D L X pc lv (.int x :: st) u := by
  subst hp
  exact fun H locs ls hP hS hl => lv_i2c hX.1 hX.2.1 hd rfl (k H locs ls hP hS hl)
theorem jx_dup (pc' : Nat) (hX : jx_K D L X cc own nL ret rm Qc) {va : Value} (hva : va.category = 1) (hd : decode cc pc = .ok (.dup, 1)) (hp : pc + 1 = pc') (k : jx_J D L X pc' lv (va :: va :: st) u) : jx_J D L X pc lv (va :: st) u := by
  subst hp
  exact fun H locs ls hP hS hl => lv_dup hX.1 hX.2.1 hd hva (k H locs ls hP hS hl)
theorem jx_pop (pc' : Nat) (hX : jx_K D L X cc own nL ret rm Qc) {va : Value} (hva : va.category = 1) (hd : decode cc pc = .ok (.pop, 1)) (hp : pc + 1 = pc') (k : jx_J D L X pc' lv (st) u) : jx_J D L X pc lv (va :: st) u := by
  subst hp
  exact fun H locs ls hP hS hl => lv_pop hX.1 hX.2.1 hd hva (k H locs ls hP hS hl)
theorem jx_dup_x1 (pc' : Nat) (hX : jx_K D L X cc own nL ret rm Qc) {va vb : Value} (hva : va.category = 1) (hvb : vb.category = 1) (hd : decode cc pc = .ok (.dup_x1, 1)) (hp : pc + 1 = pc') (k : jx_J D L X pc' lv (va :: vb :: va :: st) u) : jx_J D L X pc lv (va :: vb :: st) u := by
  subst hp
  exact fun H locs ls hP hS hl => lv_dup_x1 hX.1 hX.2.1 hd hva hvb (k H locs ls hP hS hl)
theorem jx_dup2_11 (pc' : Nat) (hX : jx_K D L X cc own nL ret rm Qc) {va vb : Value} (hva : va.category = 1) (hvb : vb.category = 1) (hd : decode cc pc = .ok (.dup2, 1)) (hp : pc + 1 = pc') (k : jx_J D L X pc' lv (va :: vb :: va :: vb :: st) u) : jx_J D L X pc lv (va :: vb :: st) u := by
  subst hp
  exact fun H locs ls hP hS hl => lv_dup2_11 hX.1 hX.2.1 hd hva hvb (k H locs ls hP hS hl)
theorem jx_dup_x2 (pc' : Nat) (hX : jx_K D L X cc own nL ret rm Qc) {va vb vd : Value} (hva : va.category = 1) (hvb : vb.category = 1) (hvd : vd.category = 1) (hd : decode cc pc = .ok (.dup_x2, 1)) (hp : pc + 1 = pc') (k : jx_J D L X pc' lv (va :: vb :: vd :: va :: st) u) : jx_J D L X pc lv (va :: vb :: vd :: st) u := by
  subst hp
  exact fun H locs ls hP hS hl => lv_dup_x2 hX.1 hX.2.1 hd hva hvb hvd (k H locs ls hP hS hl)
theorem jx_ldc (pc' : Nat) (hX : jx_K D L X cc own nL ret rm Qc) {index : Nat} {v : Int32} (hw : Cond.constant own index v ∈ jx_tb) (hd : decode cc pc = .ok (.ldc index, 2)) (hp : pc + 2 = pc') (k : jx_J D L X pc' lv (.int v :: st) u) : jx_J D L X pc lv (st) u := by
  subst hp
  exact fun H locs ls hP hS hl => lv_ldc hX.1 hX.2.1 hX.2.2.2.1 (hX.2.2.2.2.1 _ hw) hd (k H locs ls hP hS hl)
theorem jx_ldc2 (pc' : Nat) (hX : jx_K D L X cc own nL ret rm Qc) {index : Nat} {v : Int64} (hw : Cond.constantLong own index v ∈ jx_tb) (hd : decode cc pc = .ok (.ldc2_w index, 3)) (hp : pc + 3 = pc') (k : jx_J D L X pc' lv (.long v :: st) u) : jx_J D L X pc lv (st) u := by
  subst hp
  exact fun H locs ls hP hS hl => lv_ldc2 hX.1 hX.2.1 hX.2.2.2.1 (hX.2.2.2.2.1 _ hw) hd (k H locs ls hP hS hl)
theorem jx_if_eq (pc' tgt : Nat) (hX : jx_K D L X cc own nL ret rm Qc) {x : Int32} {off : Int} (hd : decode cc pc = .ok (.ifCond .eq off, 3)) (hp : pc + 3 = pc') (ht : (pc : Int) + off = (tgt : Int)) (kt : (x = 0) → jx_J D L X tgt lv st u) (kf : (¬ x = 0) → jx_J D L X pc' lv st u) : jx_J D L X pc lv (.int x :: st) u := by
  subst hp
  exact fun H locs ls hP hS hl => lv_if_eq hX.1 hX.2.1 hd ht (fun h => kt h H locs ls hP hS hl) (fun h => kf h H locs ls hP hS hl)
theorem jx_icmp_eq (pc' tgt : Nat) (hX : jx_K D L X cc own nL ret rm Qc) {x y : Int32} {off : Int} (hd : decode cc pc = .ok (.if_icmp .eq off, 3)) (hp : pc + 3 = pc') (ht : (pc : Int) + off = (tgt : Int)) (kt : (x = y) → jx_J D L X tgt lv st u) (kf : (¬ x = y) → jx_J D L X pc' lv st u) : jx_J D L X pc lv (.int y :: .int x :: st) u := by
  subst hp
  exact fun H locs ls hP hS hl => lv_icmp_eq hX.1 hX.2.1 hd ht (fun h => kt h H locs ls hP hS hl) (fun h => kf h H locs ls hP hS hl)
theorem jx_if_ne (pc' tgt : Nat) (hX : jx_K D L X cc own nL ret rm Qc) {x : Int32} {off : Int} (hd : decode cc pc = .ok (.ifCond .ne off, 3)) (hp : pc + 3 = pc') (ht : (pc : Int) + off = (tgt : Int)) (kt : (¬ x = 0) → jx_J D L X tgt lv st u) (kf : (x = 0) → jx_J D L X pc' lv st u) : jx_J D L X pc lv (.int x :: st) u := by
  subst hp
  exact fun H locs ls hP hS hl => lv_if_ne hX.1 hX.2.1 hd ht (fun h => kt h H locs ls hP hS hl) (fun h => kf h H locs ls hP hS hl)
theorem jx_icmp_ne (pc' tgt : Nat) (hX : jx_K D L X cc own nL ret rm Qc) {x y : Int32} {off : Int} (hd : decode cc pc = .ok (.if_icmp .ne off, 3)) (hp : pc + 3 = pc') (ht : (pc : Int) + off = (tgt : Int)) (kt : (¬ x = y) → jx_J D L X tgt lv st u) (kf : (x = y) → jx_J D L X pc' lv st u) : jx_J D L X pc lv (.int y :: .int x :: st) u := by
  subst hp
  exact fun H locs ls hP hS hl => lv_icmp_ne hX.1 hX.2.1 hd ht (fun h => kt h H locs ls hP hS hl) (fun h => kf h H locs ls hP hS hl)
theorem jx_if_lt (pc' tgt : Nat) (hX : jx_K D L X cc own nL ret rm Qc) {x : Int32} {off : Int} (hd : decode cc pc = .ok (.ifCond .lt off, 3)) (hp : pc + 3 = pc') (ht : (pc : Int) + off = (tgt : Int)) (kt : (x < 0) → jx_J D L X tgt lv st u) (kf : (¬ x < 0) → jx_J D L X pc' lv st u) : jx_J D L X pc lv (.int x :: st) u := by
  subst hp
  exact fun H locs ls hP hS hl => lv_if_lt hX.1 hX.2.1 hd ht (fun h => kt h H locs ls hP hS hl) (fun h => kf h H locs ls hP hS hl)
theorem jx_icmp_lt (pc' tgt : Nat) (hX : jx_K D L X cc own nL ret rm Qc) {x y : Int32} {off : Int} (hd : decode cc pc = .ok (.if_icmp .lt off, 3)) (hp : pc + 3 = pc') (ht : (pc : Int) + off = (tgt : Int)) (kt : (x < y) → jx_J D L X tgt lv st u) (kf : (¬ x < y) → jx_J D L X pc' lv st u) : jx_J D L X pc lv (.int y :: .int x :: st) u := by
  subst hp
  exact fun H locs ls hP hS hl => lv_icmp_lt hX.1 hX.2.1 hd ht (fun h => kt h H locs ls hP hS hl) (fun h => kf h H locs ls hP hS hl)
theorem jx_if_ge (pc' tgt : Nat) (hX : jx_K D L X cc own nL ret rm Qc) {x : Int32} {off : Int} (hd : decode cc pc = .ok (.ifCond .ge off, 3)) (hp : pc + 3 = pc') (ht : (pc : Int) + off = (tgt : Int)) (kt : (0 ≤ x) → jx_J D L X tgt lv st u) (kf : (¬ 0 ≤ x) → jx_J D L X pc' lv st u) : jx_J D L X pc lv (.int x :: st) u := by
  subst hp
  exact fun H locs ls hP hS hl => lv_if_ge hX.1 hX.2.1 hd ht (fun h => kt h H locs ls hP hS hl) (fun h => kf h H locs ls hP hS hl)
theorem jx_icmp_ge (pc' tgt : Nat) (hX : jx_K D L X cc own nL ret rm Qc) {x y : Int32} {off : Int} (hd : decode cc pc = .ok (.if_icmp .ge off, 3)) (hp : pc + 3 = pc') (ht : (pc : Int) + off = (tgt : Int)) (kt : (y ≤ x) → jx_J D L X tgt lv st u) (kf : (¬ y ≤ x) → jx_J D L X pc' lv st u) : jx_J D L X pc lv (.int y :: .int x :: st) u := by
  subst hp
  exact fun H locs ls hP hS hl => lv_icmp_ge hX.1 hX.2.1 hd ht (fun h => kt h H locs ls hP hS hl) (fun h => kf h H locs ls hP hS hl)
theorem jx_if_gt (pc' tgt : Nat) (hX : jx_K D L X cc own nL ret rm Qc) {x : Int32} {off : Int} (hd : decode cc pc = .ok (.ifCond .gt off, 3)) (hp : pc + 3 = pc') (ht : (pc : Int) + off = (tgt : Int)) (kt : (0 < x) → jx_J D L X tgt lv st u) (kf : (¬ 0 < x) → jx_J D L X pc' lv st u) : jx_J D L X pc lv (.int x :: st) u := by
  subst hp
  exact fun H locs ls hP hS hl => lv_if_gt hX.1 hX.2.1 hd ht (fun h => kt h H locs ls hP hS hl) (fun h => kf h H locs ls hP hS hl)
theorem jx_icmp_gt (pc' tgt : Nat) (hX : jx_K D L X cc own nL ret rm Qc) {x y : Int32} {off : Int} (hd : decode cc pc = .ok (.if_icmp .gt off, 3)) (hp : pc + 3 = pc') (ht : (pc : Int) + off = (tgt : Int)) (kt : (y < x) → jx_J D L X tgt lv st u) (kf : (¬ y < x) → jx_J D L X pc' lv st u) : jx_J D L X pc lv (.int y :: .int x :: st) u := by
  subst hp
  exact fun H locs ls hP hS hl => lv_icmp_gt hX.1 hX.2.1 hd ht (fun h => kt h H locs ls hP hS hl) (fun h => kf h H locs ls hP hS hl)
theorem jx_if_le (pc' tgt : Nat) (hX : jx_K D L X cc own nL ret rm Qc) {x : Int32} {off : Int} (hd : decode cc pc = .ok (.ifCond .le off, 3)) (hp : pc + 3 = pc') (ht : (pc : Int) + off = (tgt : Int)) (kt : (x ≤ 0) → jx_J D L X tgt lv st u) (kf : (¬ x ≤ 0) → jx_J D L X pc' lv st u) : jx_J D L X pc lv (.int x :: st) u := by
  subst hp
  exact fun H locs ls hP hS hl => lv_if_le hX.1 hX.2.1 hd ht (fun h => kt h H locs ls hP hS hl) (fun h => kf h H locs ls hP hS hl)
theorem jx_icmp_le (pc' tgt : Nat) (hX : jx_K D L X cc own nL ret rm Qc) {x y : Int32} {off : Int} (hd : decode cc pc = .ok (.if_icmp .le off, 3)) (hp : pc + 3 = pc') (ht : (pc : Int) + off = (tgt : Int)) (kt : (x ≤ y) → jx_J D L X tgt lv st u) (kf : (¬ x ≤ y) → jx_J D L X pc' lv st u) : jx_J D L X pc lv (.int y :: .int x :: st) u := by
  subst hp
  exact fun H locs ls hP hS hl => lv_icmp_le hX.1 hX.2.1 hd ht (fun h => kt h H locs ls hP hS hl) (fun h => kf h H locs ls hP hS hl)
theorem jx_goto (tgt : Nat) (hX : jx_K D L X cc own nL ret rm Qc) {off : Int} (hd : decode cc pc = .ok (.goto off, 3)) (ht : (pc : Int) + off = (tgt : Int)) (k : jx_J D L X tgt lv st u) : jx_J D L X pc lv st u :=
  fun H locs ls hP hS hl => lv_goto hX.1 hX.2.1 hd ht (k H locs ls hP hS hl)
theorem jx_lookup (tgt : Nat) (hX : jx_K D L X cc own nL ret rm Qc) {dflt : Int} {ps : Array (Int × Int)} {len : Nat} {x : Int32} {off : Int} (hd : decode cc pc = .ok (.lookupswitch dflt ps, len)) (hs : (ps.toList.zip (ps.toList.drop 1)).all (fun (a, next) => a.1 < next.1) = true) (ho : Op.lookupswitch.offset ps.toList dflt x.toInt = off) (ht : (pc : Int) + off = (tgt : Int)) (k : jx_J D L X tgt lv st u) : jx_J D L X pc lv (.int x :: st) u :=
  fun H locs ls hP hS hl => lv_lookup hX.1 hX.2.1 hd hs ho ht (k H locs ls hP hS hl)
theorem jx_tabOut (tgt : Nat) (hX : jx_K D L X cc own nL ret rm Qc) {dflt lo hi : Int} {offs : Array Int} {len : Nat} {x : Int32} (hd : decode cc pc = .ok (.tableswitch dflt lo hi offs, len)) (h : x.toInt < lo ∨ hi < x.toInt) (ht : (pc : Int) + dflt = (tgt : Int)) (k : jx_J D L X tgt lv st u) : jx_J D L X pc lv (.int x :: st) u :=
  fun H locs ls hP hS hl => lv_tableOut hX.1 hX.2.1 hd h ht (k H locs ls hP hS hl)
theorem jx_tabIn (tgt : Nat) (hX : jx_K D L X cc own nL ret rm Qc) {dflt lo hi : Int} {offs : Array Int} {len : Nat} {x : Int32} {off : Int} (hd : decode cc pc = .ok (.tableswitch dflt lo hi offs, len)) (h1 : ¬ x.toInt < lo) (h2 : ¬ hi < x.toInt) (ho : offs[(x.toInt - lo).toNat]? = some off) (ht : (pc : Int) + off = (tgt : Int)) (k : jx_J D L X tgt lv st u) : jx_J D L X pc lv (.int x :: st) u :=
  fun H locs ls hP hS hl => lv_tableIn hX.1 hX.2.1 hd h1 h2 ho ht (k H locs ls hP hS hl)
/-- cell c is there, and is an object of class ci (or an array of kind ci) -/
def jx_ok (L : jx_Ly) (ci c : Nat) : Prop := c < L.2 ∧ (L.1 c).1 = ci
/-- field f of class ci under the entry idx of own's pool; it may be written -/
def jx_fg (own : String) (idx ci f : Nat) : Prop := ci ≤ 4 ∧ ∃ (C : String) (T : u_T), vwCl[ci]? = some (C, T, jx_nf ci) ∧ f < jx_nf ci ∧ (∀ w ∈ u_ws C T (jx_nf ci), w ∈ jx_tb) ∧ Cond.fieldLink own idx (T f).1 (T f).2.1 (T f).2.2.1 ∈ jx_tb
def jx_fp (own : String) (idx ci f : Nat) (ty : FieldType) : Prop := ci ≤ 4 ∧ ∃ (C : String) (T : u_T) (ty0 : Nat → FieldType), vwCl[ci]? = some (C, T, jx_nf ci) ∧ f < jx_nf ci ∧ (∀ w ∈ u_ws C T (jx_nf ci), w ∈ jx_tb) ∧ Cond.fieldLink own idx (T f).1 (T f).2.1 (T f).2.2.1 ∈ jx_tb ∧ (∀ k, k < jx_nf ci → parseFieldDescriptor (T k).2.2.1 = some (ty0 k)) ∧ (∀ a, a < jx_nf ci → ∀ b, b < jx_nf ci → a ≠ b → (T a).2.1 ≠ (T b).2.1) ∧ (T f).2.2.2 = false ∧ parseFieldDescriptor (T f).2.2.1 = some ty
theorem jx_getI (pc' : Nat) (hX : jx_K D L X cc own nL ret rm Qc) {idx ci f c : Nat} (hf : jx_fg own idx ci f) (hr : jx_isR ci f = false) (hc : jx_ok L ci c) (hd : decode cc pc = .ok (.getfield idx, 3)) (hp : pc + 3 = pc') (k : jx_J D L X pc' lv (.int (u.1 c f) :: st) u) : jx_J D L X pc lv (.ref (D.2.1 c) :: st) u := by
  subst hp
  obtain ⟨h4, C, T, h1, h2, h3, h5⟩ := hf
  exact fun H locs ls hP hS hl => va_get (ci := ci) (fs := jx_F D u ci c) hX.1 hX.2.1 hX.2.2.2.2.1 h3 hX.2.2.2.1 hX.2.2.2.2.2.2.2.1 hP c (by rw [jx_w_at hc.1, jx_E_obj hc.2 h4]) h1 f h2 (hX.2.2.2.2.1 _ h5) (fun _ h => h) (jx_F_int h2 hr) hd (k H locs ls hP hS hl)
theorem jx_getR (pc' : Nat) (hX : jx_K D L X cc own nL ret rm Qc) {idx ci f c : Nat} (hf : jx_fg own idx ci f) (hr : jx_isR ci f = true) (hc : jx_ok L ci c) (hd : decode cc pc = .ok (.getfield idx, 3)) (hp : pc + 3 = pc') (k : jx_J D L X pc' lv (.ref (D.2.1 (u.2 c f)) :: st) u) : jx_J D L X pc lv (.ref (D.2.1 c) :: st) u := by
  subst hp
  obtain ⟨h4, C, T, h1, h2, h3, h5⟩ := hf
  exact fun H locs ls hP hS hl => va_get (ci := ci) (fs := jx_F D u ci c) hX.1 hX.2.1 hX.2.2.2.2.1 h3 hX.2.2.2.1 hX.2.2.2.2.2.2.2.1 hP c (by rw [jx_w_at hc.1, jx_E_obj hc.2 h4]) h1 f h2 (hX.2.2.2.2.1 _ h5) (fun _ h => h) (jx_F_ref h2 hr) hd (k H locs ls hP hS hl)
theorem jx_putI (pc' : Nat) (hX : jx_K D L X cc own nL ret rm Qc) {idx ci f c : Nat} {v : Int32} (hf : jx_fp own idx ci f .int) (hr : jx_isR ci f = false) (hc : jx_ok L ci c) (hd : decode cc pc = .ok (.putfield idx, 3)) (hp : pc + 3 = pc') (k : jx_J D L X pc' lv st (jx_sI u c f v)) : jx_J D L X pc lv (.int v :: .ref (D.2.1 c) :: st) u := by
  subst hp
  obtain ⟨h4, C, T, ty0, h1, h2, h3, h5, h6, h7, h8, h9⟩ := hf
  intro H locs ls hP hS hl
  refine va_put (ci := ci) (fs := jx_F D u ci c) (v := .int v) (ty := .int) hX.1 hX.2.1 hX.2.2.2.2.1 h3 ty0 h6 h7 hX.2.2.2.1 hX.2.2.2.2.2.2.2.1 hP (jx_D_of hX.2.2.2.2.2.2.2.2.1) hS c (by rw [jx_w_at hc.1, jx_E_obj hc.2 h4]) h1 f h2 (hX.2.2.2.2.1 _ h5) (fun _ h => h) h8 h9 rfl rfl (by rw [jx_F_len]; exact h2) hd (fun H1 locs1 hP1 _ hS1 => ?_)
  rw [jx_F_setI hr, jx_w_set (s2 := jx_sI u c f v) hc.1 (jx_E_obj hc.2 h4) (fun c' h => jx_E_otherI h)] at hP1
  exact k H1 locs1 ls hP1 hS1 hl
theorem jx_putR (pc' : Nat) (hX : jx_K D L X cc own nL ret rm Qc) {idx ci f c v : Nat} {ty : FieldType} (hf : jx_fp own idx ci f ty) (hn : ∀ z : Nat, narrow ty (.ref z) = .ref z) (hfit : ∀ z : Nat, fits ty (.ref z) = true) (hr : jx_isR ci f = true) (hc : jx_ok L ci c) (hd : decode cc pc = .ok (.putfield idx, 3)) (hp : pc + 3 = pc') (k : jx_J D L X pc' lv st (jx_sR u c f v)) : jx_J D L X pc lv (.ref (D.2.1 v) :: .ref (D.2.1 c) :: st) u := by
  subst hp
  obtain ⟨h4, C, T, ty0, h1, h2, h3, h5, h6, h7, h8, h9⟩ := hf
  intro H locs ls hP hS hl
  refine va_put (ci := ci) (fs := jx_F D u ci c) (v := .ref (D.2.1 v)) (ty := ty) hX.1 hX.2.1 hX.2.2.2.2.1 h3 ty0 h6 h7 hX.2.2.2.1 hX.2.2.2.2.2.2.2.1 hP (jx_D_of hX.2.2.2.2.2.2.2.2.1) hS c (by rw [jx_w_at hc.1, jx_E_obj hc.2 h4]) h1 f h2 (hX.2.2.2.2.1 _ h5) (fun _ h => h) h8 h9 (hn _) (hfit _) (by rw [jx_F_len]; exact h2) hd (fun H1 locs1 hP1 _ hS1 => ?_)
  rw [jx_F_setR hr, jx_w_set (s2 := jx_sR u c f v) hc.1 (jx_E_obj hc.2 h4) (fun c' h => jx_E_otherR h)] at hP1
  exact k H1 locs1 ls hP1 hS1 hl
/-- place i of array c -/
def jx_ix (L : jx_Ly) (ci c : Nat) (i : Int32) : Prop := jx_ok L ci c ∧ vp_in i (L.1 c).2
theorem jx_caload (pc' : Nat) (hX : jx_K D L X cc own nL ret rm Qc) {c : Nat} {i : Int32} (hc : jx_ix L 5 c i) (hd : decode cc pc = .ok (.caload, 1)) (hp : pc + 1 = pc') (k : jx_J D L X pc' lv (.int (u.1 c i.toNatClampNeg) :: st) u) : jx_J D L X pc lv (.int i :: .ref (D.2.1 c) :: st) u := by
  subst hp
  exact fun H locs ls hP hS hl => va_cald hX.1 hX.2.1 hX.2.2.2.2.2.2.2.1 hP c 0 (by rw [jx_w_at hc.1.1, jx_E_chr hc.1.2]) rfl hc.2 hd (k H locs ls hP hS hl)
theorem jx_iaload (pc' : Nat) (hX : jx_K D L X cc own nL ret rm Qc) {c : Nat} {i : Int32} (hc : jx_ix L 6 c i) (hd : decode cc pc = .ok (.iaload, 1)) (hp : pc + 1 = pc') (k : jx_J D L X pc' lv (.int (u.1 c i.toNatClampNeg) :: st) u) : jx_J D L X pc lv (.int i :: .ref (D.2.1 c) :: st) u := by
  subst hp
  exact fun H locs ls hP hS hl => va_iald hX.1 hX.2.1 hX.2.2.2.2.2.2.2.1 hP c 1 (by rw [jx_w_at hc.1.1, jx_E_int hc.1.2]) rfl hc.2 hd (k H locs ls hP hS hl)
theorem jx_aaload (pc' : Nat) (hX : jx_K D L X cc own nL ret rm Qc) {c : Nat} {i : Int32} (hc : jx_ix L 7 c i) (hd : decode cc pc = .ok (.aaload, 1)) (hp : pc + 1 = pc') (k : jx_J D L X pc' lv (.ref (D.2.1 (u.2 c i.toNatClampNeg)) :: st) u) : jx_J D L X pc lv (.int i :: .ref (D.2.1 c) :: st) u := by
  subst hp
  exact fun H locs ls hP hS hl => va_aldq (f := fun i => some (D.2.1 (u.2 c i))) hX.1 hX.2.1 hX.2.2.2.2.2.2.2.1 hP c 2 (by rw [jx_w_at hc.1.1, jx_E_grp hc.1.2]) rfl hc.2 hd (k H locs ls hP hS hl)
theorem jx_castore (pc' : Nat) (hX : jx_K D L X cc own nL ret rm Qc) {c : Nat} {i v : Int32} (hc : jx_ix L 5 c i) (hd : decode cc pc = .ok (.castore, 1)) (hp : pc + 1 = pc') (k : jx_J D L X pc' lv st (jx_sI u c i.toNatClampNeg (vp_nar .char v))) : jx_J D L X pc lv (.int v :: .int i :: .ref (D.2.1 c) :: st) u := by
  subst hp
  intro H locs ls hP hS hl
  refine va_cast hX.1 hX.2.1 hX.2.2.2.2.2.2.2.1 hP (jx_D_of hX.2.2.2.2.2.2.2.2.1) hS c 0 (by rw [jx_w_at hc.1.1, jx_E_chr hc.1.2]) rfl hc.2 hd (fun H1 locs1 hP1 _ hS1 => ?_)
  rw [jx_upd_row, jx_w_set (s2 := jx_sI u c i.toNatClampNeg (vp_nar .char v)) hc.1.1 (jx_E_chr hc.1.2) (fun c' h => jx_E_otherI h)] at hP1
  exact k H1 locs1 ls hP1 hS1 hl
theorem jx_iastore (pc' : Nat) (hX : jx_K D L X cc own nL ret rm Qc) {c : Nat} {i v : Int32} (hc : jx_ix L 6 c i) (hd : decode cc pc = .ok (.iastore, 1)) (hp : pc + 1 = pc') (k : jx_J D L X pc' lv st (jx_sI u c i.toNatClampNeg v)) : jx_J D L X pc lv (.int v :: .int i :: .ref (D.2.1 c) :: st) u := by
  subst hp
  intro H locs ls hP hS hl
  refine va_iast hX.1 hX.2.1 hX.2.2.2.2.2.2.2.1 hP (jx_D_of hX.2.2.2.2.2.2.2.2.1) hS c 1 (by rw [jx_w_at hc.1.1, jx_E_int hc.1.2]) rfl hc.2 hd (fun H1 locs1 hP1 _ hS1 => ?_)
  rw [jx_upd_row, jx_w_set (s2 := jx_sI u c i.toNatClampNeg v) hc.1.1 (jx_E_int hc.1.2) (fun c' h => jx_E_otherI h)] at hP1
  exact k H1 locs1 ls hP1 hS1 hl
theorem jx_alenC (pc' : Nat) (hX : jx_K D L X cc own nL ret rm Qc) {c : Nat} (hc : jx_ok L 5 c) (hd : decode cc pc = .ok (.arraylength, 1)) (hp : pc + 1 = pc') (k : jx_J D L X pc' lv (.int (nI (L.1 c).2) :: st) u) : jx_J D L X pc lv (.ref (D.2.1 c) :: st) u := by
  subst hp
  exact fun H locs ls hP hS hl => va_alen (x := ((L.1 c).2, .inl (u.1 c))) hX.1 hX.2.1 hX.2.2.2.2.2.2.2.1 hP c 0 (by rw [jx_w_at hc.1, jx_E_chr hc.2]) rfl rfl hd (k H locs ls hP hS hl)
theorem jx_alenI (pc' : Nat) (hX : jx_K D L X cc own nL ret rm Qc) {c : Nat} (hc : jx_ok L 6 c) (hd : decode cc pc = .ok (.arraylength, 1)) (hp : pc + 1 = pc') (k : jx_J D L X pc' lv (.int (nI (L.1 c).2) :: st) u) : jx_J D L X pc lv (.ref (D.2.1 c) :: st) u := by
  subst hp
  exact fun H locs ls hP hS hl => va_alen (x := ((L.1 c).2, .inl (u.1 c))) hX.1 hX.2.1 hX.2.2.2.2.2.2.2.1 hP c 1 (by rw [jx_w_at hc.1, jx_E_int hc.2]) rfl rfl hd (k H locs ls hP hS hl)
theorem jx_ldcS (pc' : Nat) (hX : jx_K D L X cc RX2 nL ret rm Qc) (i : Nat) {idx : Nat} (hi : i < 19) (he : jx_six.getD i 0 = idx) (hd : decode cc pc = .ok (.ldc idx, 2)) (hp : pc + 2 = pc') (k : jx_J D L X pc' lv (.ref (D.2.2.2.1 i) :: st) u) : jx_J D L X pc lv st u := by
  subst hp
  subst he
  exact fun H locs ls hP hS hl => va_ldcS hX.1 hX.2.1 hX.2.2.2.1 (hX.2.2.2.2.2.2.2.2.2.1.2.1 i hi) hd (k H locs ls hP hS hl)
theorem jx_Wldcw {p : Program} {l : Launch} {e : Env} {R : Room} {s : State} {m : MethodId} {args : Array Value} {below : List Frame} {meth : Method} {c : Code} {H : Heap} {locs : List Loc} {cells slots : Nat} {Q : State → Prop} {cc : ByteArray} {pc : Nat} {ls : Array Slot} {rest : List Value} (hexec : p.tables.exec = Jvm.exec) (hb : c.code = cc) {own tx : String} {index q : Nat} (hown : s.vm.findClass own = some m.cls) (hZ : vk_R own index tx q s) (hdg : decode cc pc = .ok (.ldc_w index, 3))
    (k : W p l e R s m args below meth c H locs cells slots Q (F0 m (pc + 3) ls (.ref q :: rest))) : W p l e R s m args below meth c H locs cells slots Q (F0 m pc ls rest) := by
  intro T hT X
  obtain ⟨t, a1, b1⟩ := k T hT X
  refine ⟨t, ?_, b1⟩
  obtain ⟨k, cf, i, a', hk, hcf, hcp, -, hr, hev'⟩ := Cond.stringRef_spec hown hZ.1
  cases hZ.2.symm.trans hev'
  obtain ⟨k', hk', he⟩ := X.warmed.alike.2.2 _ _ hk
  have hr' : k'.resolved[index]? = some (some (.string q)) := by
    rcases X.warmed.entry hk hk' index with h | ⟨h, -⟩
    · rw [h]; exact hr
    · rw [hr] at h; cases h
  have hdg' : decode c.code (F0 m pc ls rest).pc = .ok (.ldc_w index, 3) := by rw [hb]; exact hdg
  jvm_step X.here [hexec, hdg', ldc_w.wp_string (e := e) (s := T) (f := F0 m pc ls rest) X.here.top hk' (by rw [he]; exact hcf) hcp hr']
  exact a1
theorem jx_ldcW (pc' : Nat) (hX : jx_K D L X cc RX2 nL ret rm Qc) (i : Nat) {idx : Nat} (hi : i < 19) (he : jx_six.getD i 0 = idx) (hd : decode cc pc = .ok (.ldc_w idx, 3)) (hp : pc + 3 = pc') (k : jx_J D L X pc' lv (.ref (D.2.2.2.1 i) :: st) u) : jx_J D L X pc lv st u := by
  subst hp
  subst he
  exact fun H locs ls hP hS hl => jx_Wldcw hX.1 hX.2.1 hX.2.2.2.1 (hX.2.2.2.2.2.2.2.2.2.1.2.1 i hi) hd (k H locs ls hP hS hl)
theorem jx_topi {e : Int32} (k : ∀ x : Int32, x = e → jx_J D L X pc lv (.int x :: st) u) : jx_J D L X pc lv (.int e :: st) u := k e rfl
theorem jx_topl {e : Int64} (k : ∀ x : Int64, x = e → jx_J D L X pc lv (.long x :: st) u) : jx_J D L X pc lv (.long e :: st) u := k e rfl
theorem jx_topc {e : Nat} (k : ∀ x : Nat, x = e → jx_J D L X pc lv (.ref (D.2.1 x) :: st) u) : jx_J D L X pc lv (.ref (D.2.1 e) :: st) u := k e rfl
theorem jx_namu {e : jx_St} (k : ∀ x : jx_St, x = e → jx_J D L X pc lv st x) : jx_J D L X pc lv st e := k e rfl
theorem jx_endB {H : Heap} {locs : List Loc} {t : State} (hX : jx_K D L X cc own nL ret rm Qc) (hP : va_P D.1 vwCl (jx_w D L u) H) (hS : va_S (jx_A D L) (jx_s X).heap H locs) (ht : t.heap = H) (hW : (jx_s X).WarmedH t.vm) : jx_B D L u t :=
  ⟨by rw [ht]; exact hP, va_K.moved hW.alike hX.2.2.2.2.2.2.2.1, hX.2.2.2.2.2.2.2.2.1, by rw [ht]; exact jx_Sr_kept (jx_Sr_warm hW hX.2.2.2.2.2.2.2.2.2.1) hS.2.1⟩
theorem jx_iret {post : Int32 → jx_St → Prop} {v : Int32} (hX : jx_K D L X cc own nL (some .int) rm (jx_Qi D L post)) (hd : decode cc pc = .ok (.ireturn, 1)) (h : post v u) : jx_J D L X pc lv [.int v] u := by
  intro H locs ls hP hS hl
  show W _ _ _ _ _ _ _ _ _ _ _ _ 0 0 (jx_Q X) _
  rw [hX.2.2.2.2.2.2.2.2.2.2.2.2]
  exact W.iret hX.1 hX.2.1 hX.2.2.2.2.2.2.1 (fun t ht hW => ⟨⟨v, u, rfl, h, jx_endB hX hP hS ht hW⟩, hS.F ht⟩) hS.2.2 hd hX.2.2.2.2.2.1
theorem jx_nb {v : Int32} (h : v = 0 ∨ v = 1) : narrow .boolean (.int v) = .int v := by rcases h with rfl | rfl <;> decide
theorem jx_zret {post : Int32 → jx_St → Prop} {v : Int32} (hX : jx_K D L X cc own nL (some .boolean) rm (jx_Qi D L (fun r u => (r = 0 ∨ r = 1) ∧ post r u))) (hd : decode cc pc = .ok (.ireturn, 1)) (hv : v = 0 ∨ v = 1) (h : post v u) : jx_J D L X pc lv [.int v] u := by
  intro H locs ls hP hS hl
  show W _ _ _ _ _ _ _ _ _ _ _ _ 0 0 (jx_Q X) _
  rw [hX.2.2.2.2.2.2.2.2.2.2.2.2]
  exact W.zret hX.1 hX.2.1 hX.2.2.2.2.2.2.1 (jx_nb hv) (fun t ht hW => ⟨⟨v, u, rfl, ⟨hv, h⟩, jx_endB hX hP hS ht hW⟩, hS.F ht⟩) hS.2.2 hd hX.2.2.2.2.2.1
theorem jx_lret {post : Int64 → jx_St → Prop} {v : Int64} (hX : jx_K D L X cc own nL (some .long) rm (jx_Ql D L post)) (hd : decode cc pc = .ok (.lreturn, 1)) (h : post v u) : jx_J D L X pc lv [.long v] u := by
  intro H locs ls hP hS hl
  show W _ _ _ _ _ _ _ _ _ _ _ _ 0 0 (jx_Q X) _
  rw [hX.2.2.2.2.2.2.2.2.2.2.2.2]
  exact W.lret hX.1 hX.2.1 hX.2.2.2.2.2.2.1 (fun t ht hW => ⟨⟨v, u, rfl, h, jx_endB hX hP hS ht hW⟩, hS.F ht⟩) hS.2.2 hd hX.2.2.2.2.2.1
theorem jx_vret {post : jx_St → Prop} (hX : jx_K D L X cc own nL none rm (jx_Qv D L post)) (hd : decode cc pc = .ok (.return_, 1)) (h : post u) : jx_J D L X pc lv [] u := by
  intro H locs ls hP hS hl
  show W _ _ _ _ _ _ _ _ _ _ _ _ 0 0 (jx_Q X) _
  rw [hX.2.2.2.2.2.2.2.2.2.2.2.2]
  exact W.vret hX.1 hX.2.1 hX.2.2.2.2.2.2.1 (fun t ht hW => ⟨⟨u, rfl, h, jx_endB hX hP hS ht hW⟩, hS.F ht⟩) hS.2.2 hd hX.2.2.2.2.2.1
end JXROWS
end
section
/-! ===== CALLS over a fixed world ===== -/
theorem jx_goodIn {ws : List Cond} {y : MethodName} {c : ByteArray} {n : Nat} {r : Option FieldType} (h : ∀ w ∈ ws, w ∈ jx_tb) (hy : Cond.code y c n r ∈ jx_tb) : GoodIn jx_tb (ws ++ (Cond.code y c n r :: jx_tb)) := by
  have key : ∀ w ∈ (ws ++ (Cond.code y c n r :: jx_tb)), w ∈ jx_tb := by
    intro w hw
    rcases List.mem_append.mp hw with h1 | h1
    · exact h w h1
    · rcases List.mem_cons.mp h1 with rfl | h2
      · exact hy
      · exact h2
  exact fun w hw => ⟨key w hw, good_of_word (jx_tb_good w (key w hw))⟩
/-- the words of a call of an instance method; of a static one -/
def jx_cv (own : String) (idx : Nat) (y : MethodName) (bytes : ByteArray) (maxL : Nat) (ret : Option FieldType) (n : Nat) : Prop :=
  (∀ w ∈ ([.methodLink own idx y, .instanceMethod y, .selects y.cls y y, .initialized y.cls] : List Cond), w ∈ jx_tb) ∧ Cond.code y bytes maxL ret ∈ jx_tb ∧ y.cls ≠ "java/lang/invoke/MethodHandle" ∧ y.cls ≠ "java/lang/invoke/VarHandle" ∧ (parseMethodDescriptor y.desc).map (fun d => d.parameters.length) = some n
def jx_cs (own : String) (idx : Nat) (y : MethodName) (bytes : ByteArray) (maxL : Nat) (ret : Option FieldType) (n : Nat) : Prop :=
  (∀ w ∈ ([.methodLink own idx y, .static y, .initialized y.cls] : List Cond), w ∈ jx_tb) ∧ Cond.code y bytes maxL ret ∈ jx_tb ∧ y.cls ≠ "java/lang/invoke/MethodHandle" ∧ y.cls ≠ "java/lang/invoke/VarHandle" ∧ (parseMethodDescriptor y.desc).map (fun d => d.parameters.length) = some n
/-- the callee's room fits into the caller's -/
def jx_rm (rm rm' : Room) (maxL' : Nat) : Prop := rm'.cells = 0 ∧ rm'.slots = 0 ∧ rm'.frames + 1 ≤ rm.frames ∧ 8 + (maxL' + 11) + rm'.locals ≤ rm.locals
def jx_cn (ci : Nat) (C : String) : Prop := ci ≤ 4 ∧ ∃ (T : u_T) (N : Nat), vwCl[ci]? = some (C, T, N)
section JXCALLS
variable {D : jx_Dt} {L : jx_Ly} {X : jx_X} {cc : ByteArray} {own : String} {nL : Nat} {ret : Option FieldType} {rm : Room} {Qc : Array Value → State → Outcome → State → Prop} {pc : Nat} {lv : List (Nat × Value)} {st : List Value} {u : jx_St}
variable {y : MethodName} {bytes : ByteArray} {maxL' : Nat} {ret' : Option FieldType} {rm' : Room} {idx n ci c : Nat} {As st0 : List Value}
theorem jx_blind {av : List Value} : FrameBlind (va_Pc av (fun U => jx_B D L u U)) := fun _ _ _ _ q => ⟨q.1, jx_B_same rfl rfl q.2⟩
theorem jx_runV {H : Heap} {locs : List Loc} {ls : Array Slot} {Qa : Array Value → State → Outcome → State → Prop} (hX : jx_K D L X cc own nL ret rm Qc) (hP : va_P D.1 vwCl (jx_w D L u) H) (hS : va_S (jx_A D L) (jx_s X).heap H locs) (hl : lv_has ls (jx_nL X) lv)
    (hM : jx_Met X.2.1 y bytes maxL' ret' rm' D L (.ref (D.2.1 c) :: As) u Qa) (hw : jx_cv own idx y bytes maxL' ret' n) (hC : jx_cn ci y.cls) (hc : jx_ok L ci c) (hr : jx_rm rm rm' maxL') (hn : As.length = n) (hst : st0 = As.reverse ++ .ref (D.2.1 c) :: st) (hR : (st.map fun v => v.category).sum ≤ 8) (hd : decode cc pc = .ok (.invokevirtual idx, 3)) :
    va_Run X.1 X.2.1 X.2.2.1 X.2.2.2.1 (jx_s X) (jx_m X) (jx_ar X) (jx_be X) (jx_me X) (jx_co X) H locs 0 0 0 0 (F0 (jx_m X) pc ls st0) st (Qa (Value.ref (D.2.1 c) :: As).toArray) (jx_A D L) := by
  obtain ⟨hw1, hw2, hw3, hw4, hw5⟩ := hw
  obtain ⟨h4, T, N, hT⟩ := hC
  exact va_runV (As := As) (rest := st) ⟨hX.1, hX.2.1, hX.2.2.1, hX.2.2.2.1, hX.2.2.2.2.1⟩ hM (cwV n hX.2.2.2.2.1 (jx_goodIn hw1 hw2) rfl hr.1 hr.2.1 ⟨rfl, hw3, hw4, hw5⟩ (by rw [hX.2.2.2.2.2.2.2.2.2.2.2.1]; exact hr.2.2))
    ⟨jx_blind, va_recv hX.2.2.2.2.2.2.2.1 hP (ci := ci) (q0 := c) hT (by rw [jx_w_at hc.1, jx_E_obj hc.2 h4]), fun U hU hW => ⟨rfl, jx_endB hX hP hS hU hW⟩⟩ rfl hn (hl.1.trans hX.2.2.2.2.2.2.2.2.2.2.1) hst (lv_room hR) hd ⟨Nat.zero_le _, Nat.zero_le _⟩
theorem jx_runS {H : Heap} {locs : List Loc} {ls : Array Slot} {Qa : Array Value → State → Outcome → State → Prop} (hX : jx_K D L X cc own nL ret rm Qc) (hP : va_P D.1 vwCl (jx_w D L u) H) (hS : va_S (jx_A D L) (jx_s X).heap H locs) (hl : lv_has ls (jx_nL X) lv)
    (hM : jx_Met X.2.1 y bytes maxL' ret' rm' D L As u Qa) (hw : jx_cs own idx y bytes maxL' ret' n) (hr : jx_rm rm rm' maxL') (hn : As.length = n) (hst : st0 = As.reverse ++ st) (hR : (st.map fun v => v.category).sum ≤ 8) (hd : decode cc pc = .ok (.invokestatic idx, 3)) :
    va_Run X.1 X.2.1 X.2.2.1 X.2.2.2.1 (jx_s X) (jx_m X) (jx_ar X) (jx_be X) (jx_me X) (jx_co X) H locs 0 0 0 0 (F0 (jx_m X) pc ls st0) st (Qa As.toArray) (jx_A D L) := by
  obtain ⟨hw1, hw2, hw3, hw4, hw5⟩ := hw
  exact va_runS (As := As) (rest := st) ⟨hX.1, hX.2.1, hX.2.2.1, hX.2.2.2.1, hX.2.2.2.2.1⟩ hM (va_cwS n hX.2.2.2.2.1 (jx_goodIn hw1 hw2) rfl hr.1 hr.2.1 ⟨hw3, hw4, hw5⟩ (by rw [hX.2.2.2.2.2.2.2.2.2.2.2.1]; exact hr.2.2))
    ⟨jx_blind, fun U hU hW => ⟨rfl, jx_endB hX hP hS hU hW⟩⟩ rfl hn (hl.1.trans hX.2.2.2.2.2.2.2.2.2.2.1) hst (lv_room hR) hd ⟨Nat.zero_le _, Nat.zero_le _⟩
theorem jx_callVi (pc' : Nat) {post : Int32 → jx_St → Prop} (hX : jx_K D L X cc own nL ret rm Qc) (hM : jx_Met X.2.1 y bytes maxL' ret' rm' D L (.ref (D.2.1 c) :: As) u (jx_Qi D L post)) (hw : jx_cv own idx y bytes maxL' ret' n) (hC : jx_cn ci y.cls) (hc : jx_ok L ci c) (hr : jx_rm rm rm' maxL') (hn : As.length = n) (hst : st0 = As.reverse ++ .ref (D.2.1 c) :: st) (hR : (st.map fun v => v.category).sum ≤ 8) (hd : decode cc pc = .ok (.invokevirtual idx, 3)) (hp : pc + 3 = pc')
    (k : ∀ (r : Int32) (u' : jx_St), post r u' → jx_J D L X pc' lv (.int r :: st) u') : jx_J D L X pc lv st0 u := by
  subst hp
  intro H locs ls hP hS hl
  refine va_calli (jx_runV hX hP hS hl hM hw hC hc hr hn hst hR hd) hS (fun q _ h => h) (fun q h => h) (fun r u' t H1 locs1 ht hvm hpost hB hz hk hS1 => ?_)
  exact k r u' hpost H1 locs1 ls (by rw [← ht]; exact hB.1) hS1 hl
theorem jx_callVl (pc' : Nat) {post : Int64 → jx_St → Prop} (hX : jx_K D L X cc own nL ret rm Qc) (hM : jx_Met X.2.1 y bytes maxL' ret' rm' D L (.ref (D.2.1 c) :: As) u (jx_Ql D L post)) (hw : jx_cv own idx y bytes maxL' ret' n) (hC : jx_cn ci y.cls) (hc : jx_ok L ci c) (hr : jx_rm rm rm' maxL') (hn : As.length = n) (hst : st0 = As.reverse ++ .ref (D.2.1 c) :: st) (hR : (st.map fun v => v.category).sum ≤ 8) (hd : decode cc pc = .ok (.invokevirtual idx, 3)) (hp : pc + 3 = pc')
    (k : ∀ (r : Int64) (u' : jx_St), post r u' → jx_J D L X pc' lv (.long r :: st) u') : jx_J D L X pc lv st0 u := by
  subst hp
  intro H locs ls hP hS hl
  refine va_calll (jx_runV hX hP hS hl hM hw hC hc hr hn hst hR hd) hS (fun q _ h => h) (fun q h => h) (fun r u' t H1 locs1 ht hvm hpost hB hz hk hS1 => ?_)
  exact k r u' hpost H1 locs1 ls (by rw [← ht]; exact hB.1) hS1 hl
theorem jx_callVv (pc' : Nat) {post : jx_St → Prop} (hX : jx_K D L X cc own nL ret rm Qc) (hM : jx_Met X.2.1 y bytes maxL' ret' rm' D L (.ref (D.2.1 c) :: As) u (jx_Qv D L post)) (hw : jx_cv own idx y bytes maxL' ret' n) (hC : jx_cn ci y.cls) (hc : jx_ok L ci c) (hr : jx_rm rm rm' maxL') (hn : As.length = n) (hst : st0 = As.reverse ++ .ref (D.2.1 c) :: st) (hR : (st.map fun v => v.category).sum ≤ 8) (hd : decode cc pc = .ok (.invokevirtual idx, 3)) (hp : pc + 3 = pc')
    (k : ∀ (u' : jx_St), post u' → jx_J D L X pc' lv st u') : jx_J D L X pc lv st0 u := by
  subst hp
  intro H locs ls hP hS hl
  refine va_callv (jx_runV hX hP hS hl hM hw hC hc hr hn hst hR hd) hS (fun q _ h => h) (fun q h => h) (fun u' t H1 locs1 ht hvm hpost hB hz hk hS1 => ?_)
  exact k u' hpost H1 locs1 ls (by rw [← ht]; exact hB.1) hS1 hl
theorem jx_callSi (pc' : Nat) {post : Int32 → jx_St → Prop} (hX : jx_K D L X cc own nL ret rm Qc) (hM : jx_Met X.2.1 y bytes maxL' ret' rm' D L As u (jx_Qi D L post)) (hw : jx_cs own idx y bytes maxL' ret' n) (hr : jx_rm rm rm' maxL') (hn : As.length = n) (hst : st0 = As.reverse ++ st) (hR : (st.map fun v => v.category).sum ≤ 8) (hd : decode cc pc = .ok (.invokestatic idx, 3)) (hp : pc + 3 = pc')
    (k : ∀ (r : Int32) (u' : jx_St), post r u' → jx_J D L X pc' lv (.int r :: st) u') : jx_J D L X pc lv st0 u := by
  subst hp
  intro H locs ls hP hS hl
  refine va_calli (jx_runS hX hP hS hl hM hw hr hn hst hR hd) hS (fun q _ h => h) (fun q h => h) (fun r u' t H1 locs1 ht hvm hpost hB hz hk hS1 => ?_)
  exact k r u' hpost H1 locs1 ls (by rw [← ht]; exact hB.1) hS1 hl
theorem jx_mmax (pc' : Nat) (hX : jx_K D L X cc own nL ret rm Qc) {x z : Int32} (hw : ∀ w ∈ ([.methodLink own idx Lib.Math.max.name, .static Lib.Math.max.name, .initialized "java/lang/Math", .code Lib.Math.max.name Lib.Math.max.code 2 (some .int)] : List Cond), w ∈ jx_tb) (hr : 1 ≤ rm.frames ∧ 21 ≤ rm.locals) (hR : (st.map fun v => v.category).sum ≤ 8) (hd : decode cc pc = .ok (.invokestatic idx, 3)) (hp : pc + 3 = pc') (k : jx_J D L X pc' lv (.int (if x < z then z else x) :: st) u) : jx_J D L X pc lv (.int z :: .int x :: st) u := by
  subst hp
  intro H locs ls hP hS hl
  have hR2 : X.2.2.2.1 = rm := hX.2.2.2.2.2.2.2.2.2.2.2.1
  exact va_mmax hX.1 hX.2.1 (hX.2.2.1.trans (hl.1.trans hX.2.2.2.2.2.2.2.2.2.2.1).symm) hX.2.2.2.1 (hX.2.2.2.2.1 _ (hw _ (by simp))) (hX.2.2.2.2.1 _ (hw _ (by simp))) (hX.2.2.2.2.1 _ (hw _ (by simp))) (hX.2.2.2.2.1 _ (hw _ (by simp))) (by rw [hR2]; exact hr.1) (by rw [hR2]; omega) (Nat.zero_le _) (Nat.zero_le _) hd (k H locs ls hP hS hl)
theorem jx_mmin (pc' : Nat) (hX : jx_K D L X cc own nL ret rm Qc) {x z : Int32} (hw : ∀ w ∈ ([.methodLink own idx Lib.Math.min.name, .static Lib.Math.min.name, .initialized "java/lang/Math", .code Lib.Math.min.name Lib.Math.min.code 2 (some .int)] : List Cond), w ∈ jx_tb) (hr : 1 ≤ rm.frames ∧ 21 ≤ rm.locals) (hR : (st.map fun v => v.category).sum ≤ 8) (hd : decode cc pc = .ok (.invokestatic idx, 3)) (hp : pc + 3 = pc') (k : jx_J D L X pc' lv (.int (if z < x then z else x) :: st) u) : jx_J D L X pc lv (.int z :: .int x :: st) u := by
  subst hp
  intro H locs ls hP hS hl
  have hR2 : X.2.2.2.1 = rm := hX.2.2.2.2.2.2.2.2.2.2.2.1
  exact va_mmin hX.1 hX.2.1 (hX.2.2.1.trans (hl.1.trans hX.2.2.2.2.2.2.2.2.2.2.1).symm) hX.2.2.2.1 (hX.2.2.2.2.1 _ (hw _ (by simp))) (hX.2.2.2.2.1 _ (hw _ (by simp))) (hX.2.2.2.2.1 _ (hw _ (by simp))) (hX.2.2.2.2.1 _ (hw _ (by simp))) (by rw [hR2]; exact hr.1) (by rw [hR2]; omega) (Nat.zero_le _) (Nat.zero_le _) hd (k H locs ls hP hS hl)
end JXCALLS
end
