section
-- ===== PART A: goes FIRST, ahead of the names: the tables' words, and 'selects' of the private methods out of them =====
/-- a private method of a class that the tables say can be made, by its rows of tables_1 -/
def lw_okq (q : MethodName × Nat) : Prop := (q.1.cls ≠ "java/lang/invoke/MethodHandle" ∧ q.1.cls ≠ "java/lang/invoke/VarHandle") ∧ Cond.instantiable q.1.cls q.2 ∈ tables_1 ∧ Cond.privateMethod q.1 ∈ tables_1 ∧ Cond.instanceMethod q.1 ∈ tables_1
theorem lw_p0 : lw_okq (⟨"SkyBulletin$Reader", "takeToken", "()Z"⟩, 8) := ⟨⟨by decide +kernel, by decide +kernel⟩, List.mem_of_getElem? (i := 149) (by decide +kernel), List.mem_of_getElem? (i := 232) (by decide +kernel), List.mem_of_getElem? (i := 233) (by decide +kernel)⟩
theorem lw_p1 : lw_okq (⟨"SkyBulletin$Reader", "takeHead", "()Z"⟩, 8) := ⟨⟨by decide +kernel, by decide +kernel⟩, List.mem_of_getElem? (i := 149) (by decide +kernel), List.mem_of_getElem? (i := 236) (by decide +kernel), List.mem_of_getElem? (i := 237) (by decide +kernel)⟩
theorem lw_p2 : lw_okq (⟨"SkyBulletin$Reader", "takeWord", "(Ljava/lang/String;)Z"⟩, 8) := ⟨⟨by decide +kernel, by decide +kernel⟩, List.mem_of_getElem? (i := 149) (by decide +kernel), List.mem_of_getElem? (i := 241) (by decide +kernel), List.mem_of_getElem? (i := 242) (by decide +kernel)⟩
theorem lw_p3 : lw_okq (⟨"SkyBulletin$Reader", "holds", "(ILjava/lang/String;)Z"⟩, 8) := ⟨⟨by decide +kernel, by decide +kernel⟩, List.mem_of_getElem? (i := 149) (by decide +kernel), List.mem_of_getElem? (i := 255) (by decide +kernel), List.mem_of_getElem? (i := 256) (by decide +kernel)⟩
theorem lw_p4 : lw_okq (⟨"SkyBulletin$Reader", "takeStation", "()Z"⟩, 8) := ⟨⟨by decide +kernel, by decide +kernel⟩, List.mem_of_getElem? (i := 149) (by decide +kernel), List.mem_of_getElem? (i := 298) (by decide +kernel), List.mem_of_getElem? (i := 299) (by decide +kernel)⟩
theorem lw_p5 : lw_okq (⟨"SkyBulletin$Reader", "takeIssue", "()Z"⟩, 8) := ⟨⟨by decide +kernel, by decide +kernel⟩, List.mem_of_getElem? (i := 149) (by decide +kernel), List.mem_of_getElem? (i := 302) (by decide +kernel), List.mem_of_getElem? (i := 303) (by decide +kernel)⟩
theorem lw_p6 : lw_okq (⟨"SkyBulletin$Reader", "timeAt", "(I)I"⟩, 8) := ⟨⟨by decide +kernel, by decide +kernel⟩, List.mem_of_getElem? (i := 149) (by decide +kernel), List.mem_of_getElem? (i := 306) (by decide +kernel), List.mem_of_getElem? (i := 307) (by decide +kernel)⟩
theorem lw_p7 : lw_okq (⟨"SkyBulletin$Reader", "hourAt", "(II)I"⟩, 8) := ⟨⟨by decide +kernel, by decide +kernel⟩, List.mem_of_getElem? (i := 149) (by decide +kernel), List.mem_of_getElem? (i := 310) (by decide +kernel), List.mem_of_getElem? (i := 311) (by decide +kernel)⟩
theorem lw_p8 : lw_okq (⟨"SkyBulletin$Reader", "digits", "(II)I"⟩, 8) := ⟨⟨by decide +kernel, by decide +kernel⟩, List.mem_of_getElem? (i := 149) (by decide +kernel), List.mem_of_getElem? (i := 314) (by decide +kernel), List.mem_of_getElem? (i := 315) (by decide +kernel)⟩
theorem lw_p9 : lw_okq (⟨"SkyBulletin$Reader", "takeReport", "()Z"⟩, 8) := ⟨⟨by decide +kernel, by decide +kernel⟩, List.mem_of_getElem? (i := 149) (by decide +kernel), List.mem_of_getElem? (i := 318) (by decide +kernel), List.mem_of_getElem? (i := 319) (by decide +kernel)⟩
theorem lw_p10 : lw_okq (⟨"SkyBulletin$Reader", "takeWhole", "(LSkyBulletin$Group;)Z"⟩, 8) := ⟨⟨by decide +kernel, by decide +kernel⟩, List.mem_of_getElem? (i := 149) (by decide +kernel), List.mem_of_getElem? (i := 322) (by decide +kernel), List.mem_of_getElem? (i := 323) (by decide +kernel)⟩
theorem lw_p11 : lw_okq (⟨"SkyBulletin$Reader", "takeWind", "(LSkyBulletin$Group;)Z"⟩, 8) := ⟨⟨by decide +kernel, by decide +kernel⟩, List.mem_of_getElem? (i := 149) (by decide +kernel), List.mem_of_getElem? (i := 326) (by decide +kernel), List.mem_of_getElem? (i := 327) (by decide +kernel)⟩
theorem lw_p12 : lw_okq (⟨"SkyBulletin$Reader", "takeCavok", "(LSkyBulletin$Group;)Z"⟩, 8) := ⟨⟨by decide +kernel, by decide +kernel⟩, List.mem_of_getElem? (i := 149) (by decide +kernel), List.mem_of_getElem? (i := 332) (by decide +kernel), List.mem_of_getElem? (i := 333) (by decide +kernel)⟩
theorem lw_p13 : lw_okq (⟨"SkyBulletin$Reader", "takeVisibility", "(LSkyBulletin$Group;)Z"⟩, 8) := ⟨⟨by decide +kernel, by decide +kernel⟩, List.mem_of_getElem? (i := 149) (by decide +kernel), List.mem_of_getElem? (i := 337) (by decide +kernel), List.mem_of_getElem? (i := 338) (by decide +kernel)⟩
theorem lw_p14 : lw_okq (⟨"SkyBulletin$Reader", "takeWeathers", "(LSkyBulletin$Group;)V"⟩, 8) := ⟨⟨by decide +kernel, by decide +kernel⟩, List.mem_of_getElem? (i := 149) (by decide +kernel), List.mem_of_getElem? (i := 341) (by decide +kernel), List.mem_of_getElem? (i := 342) (by decide +kernel)⟩
theorem lw_p15 : lw_okq (⟨"SkyBulletin$Reader", "weatherNumber", "()I"⟩, 8) := ⟨⟨by decide +kernel, by decide +kernel⟩, List.mem_of_getElem? (i := 149) (by decide +kernel), List.mem_of_getElem? (i := 345) (by decide +kernel), List.mem_of_getElem? (i := 346) (by decide +kernel)⟩
def lw_privs_1 : List (MethodName × Nat) := [(⟨"SkyBulletin$Reader", "takeToken", "()Z"⟩, 8), (⟨"SkyBulletin$Reader", "takeHead", "()Z"⟩, 8), (⟨"SkyBulletin$Reader", "takeWord", "(Ljava/lang/String;)Z"⟩, 8), (⟨"SkyBulletin$Reader", "holds", "(ILjava/lang/String;)Z"⟩, 8), (⟨"SkyBulletin$Reader", "takeStation", "()Z"⟩, 8), (⟨"SkyBulletin$Reader", "takeIssue", "()Z"⟩, 8), (⟨"SkyBulletin$Reader", "timeAt", "(I)I"⟩, 8), (⟨"SkyBulletin$Reader", "hourAt", "(II)I"⟩, 8), (⟨"SkyBulletin$Reader", "digits", "(II)I"⟩, 8), (⟨"SkyBulletin$Reader", "takeReport", "()Z"⟩, 8), (⟨"SkyBulletin$Reader", "takeWhole", "(LSkyBulletin$Group;)Z"⟩, 8), (⟨"SkyBulletin$Reader", "takeWind", "(LSkyBulletin$Group;)Z"⟩, 8), (⟨"SkyBulletin$Reader", "takeCavok", "(LSkyBulletin$Group;)Z"⟩, 8), (⟨"SkyBulletin$Reader", "takeVisibility", "(LSkyBulletin$Group;)Z"⟩, 8), (⟨"SkyBulletin$Reader", "takeWeathers", "(LSkyBulletin$Group;)V"⟩, 8), (⟨"SkyBulletin$Reader", "weatherNumber", "()I"⟩, 8)]
theorem lw_r1 : ∀ q ∈ lw_privs_1, lw_okq q := List.forall_mem_cons.mpr ⟨lw_p0, List.forall_mem_cons.mpr ⟨lw_p1, List.forall_mem_cons.mpr ⟨lw_p2, List.forall_mem_cons.mpr ⟨lw_p3, List.forall_mem_cons.mpr ⟨lw_p4, List.forall_mem_cons.mpr ⟨lw_p5, List.forall_mem_cons.mpr ⟨lw_p6, List.forall_mem_cons.mpr ⟨lw_p7, List.forall_mem_cons.mpr ⟨lw_p8, List.forall_mem_cons.mpr ⟨lw_p9, List.forall_mem_cons.mpr ⟨lw_p10, List.forall_mem_cons.mpr ⟨lw_p11, List.forall_mem_cons.mpr ⟨lw_p12, List.forall_mem_cons.mpr ⟨lw_p13, List.forall_mem_cons.mpr ⟨lw_p14, List.forall_mem_cons.mpr ⟨lw_p15, fun _ h => absurd h List.not_mem_nil⟩⟩⟩⟩⟩⟩⟩⟩⟩⟩⟩⟩⟩⟩⟩⟩
theorem lw_p16 : lw_okq (⟨"SkyBulletin$Reader", "signNumber", "()I"⟩, 8) := ⟨⟨by decide +kernel, by decide +kernel⟩, List.mem_of_getElem? (i := 149) (by decide +kernel), List.mem_of_getElem? (i := 349) (by decide +kernel), List.mem_of_getElem? (i := 350) (by decide +kernel)⟩
theorem lw_p17 : lw_okq (⟨"SkyBulletin$Reader", "pairAt", "(ILjava/lang/String;)I"⟩, 8) := ⟨⟨by decide +kernel, by decide +kernel⟩, List.mem_of_getElem? (i := 149) (by decide +kernel), List.mem_of_getElem? (i := 354) (by decide +kernel), List.mem_of_getElem? (i := 355) (by decide +kernel)⟩
theorem lw_p18 : lw_okq (⟨"SkyBulletin$Reader", "takeClouds", "(LSkyBulletin$Group;)Z"⟩, 8) := ⟨⟨by decide +kernel, by decide +kernel⟩, List.mem_of_getElem? (i := 149) (by decide +kernel), List.mem_of_getElem? (i := 366) (by decide +kernel), List.mem_of_getElem? (i := 367) (by decide +kernel)⟩
theorem lw_p19 : lw_okq (⟨"SkyBulletin$Reader", "layerNumber", "()I"⟩, 8) := ⟨⟨by decide +kernel, by decide +kernel⟩, List.mem_of_getElem? (i := 149) (by decide +kernel), List.mem_of_getElem? (i := 376) (by decide +kernel), List.mem_of_getElem? (i := 377) (by decide +kernel)⟩
theorem lw_p20 : lw_okq (⟨"SkyBulletin$Reader", "takeTemperatures", "()Z"⟩, 8) := ⟨⟨by decide +kernel, by decide +kernel⟩, List.mem_of_getElem? (i := 149) (by decide +kernel), List.mem_of_getElem? (i := 386) (by decide +kernel), List.mem_of_getElem? (i := 387) (by decide +kernel)⟩
theorem lw_p21 : lw_okq (⟨"SkyBulletin$Reader", "degreesAt", "(I)I"⟩, 8) := ⟨⟨by decide +kernel, by decide +kernel⟩, List.mem_of_getElem? (i := 149) (by decide +kernel), List.mem_of_getElem? (i := 390) (by decide +kernel), List.mem_of_getElem? (i := 391) (by decide +kernel)⟩
theorem lw_p22 : lw_okq (⟨"SkyBulletin$Reader", "takePressure", "()Z"⟩, 8) := ⟨⟨by decide +kernel, by decide +kernel⟩, List.mem_of_getElem? (i := 149) (by decide +kernel), List.mem_of_getElem? (i := 395) (by decide +kernel), List.mem_of_getElem? (i := 396) (by decide +kernel)⟩
theorem lw_p23 : lw_okq (⟨"SkyBulletin$Reader", "takeForecast", "()Z"⟩, 8) := ⟨⟨by decide +kernel, by decide +kernel⟩, List.mem_of_getElem? (i := 149) (by decide +kernel), List.mem_of_getElem? (i := 399) (by decide +kernel), List.mem_of_getElem? (i := 400) (by decide +kernel)⟩
theorem lw_p24 : lw_okq (⟨"SkyBulletin$Reader", "takeForecastPeriod", "(LSkyBulletin$Group;)Z"⟩, 8) := ⟨⟨by decide +kernel, by decide +kernel⟩, List.mem_of_getElem? (i := 149) (by decide +kernel), List.mem_of_getElem? (i := 403) (by decide +kernel), List.mem_of_getElem? (i := 404) (by decide +kernel)⟩
theorem lw_p25 : lw_okq (⟨"SkyBulletin$Reader", "findPeriod", "(LSkyBulletin$Group;I)Z"⟩, 8) := ⟨⟨by decide +kernel, by decide +kernel⟩, List.mem_of_getElem? (i := 149) (by decide +kernel), List.mem_of_getElem? (i := 407) (by decide +kernel), List.mem_of_getElem? (i := 408) (by decide +kernel)⟩
theorem lw_p26 : lw_okq (⟨"SkyBulletin$Reader", "takeFromTime", "(LSkyBulletin$Group;)Z"⟩, 8) := ⟨⟨by decide +kernel, by decide +kernel⟩, List.mem_of_getElem? (i := 149) (by decide +kernel), List.mem_of_getElem? (i := 412) (by decide +kernel), List.mem_of_getElem? (i := 413) (by decide +kernel)⟩
theorem lw_p27 : lw_okq (⟨"SkyBulletin$Reader", "takeChangeName", "(LSkyBulletin$Group;)Z"⟩, 8) := ⟨⟨by decide +kernel, by decide +kernel⟩, List.mem_of_getElem? (i := 149) (by decide +kernel), List.mem_of_getElem? (i := 417) (by decide +kernel), List.mem_of_getElem? (i := 418) (by decide +kernel)⟩
theorem lw_p28 : lw_okq (⟨"SkyBulletin$Reader", "takeChangePeriod", "(LSkyBulletin$Group;)Z"⟩, 8) := ⟨⟨by decide +kernel, by decide +kernel⟩, List.mem_of_getElem? (i := 149) (by decide +kernel), List.mem_of_getElem? (i := 425) (by decide +kernel), List.mem_of_getElem? (i := 426) (by decide +kernel)⟩
theorem lw_p29 : lw_okq (⟨"SkyBulletin$Reader", "takeParts", "(LSkyBulletin$Group;)Z"⟩, 8) := ⟨⟨by decide +kernel, by decide +kernel⟩, List.mem_of_getElem? (i := 149) (by decide +kernel), List.mem_of_getElem? (i := 429) (by decide +kernel), List.mem_of_getElem? (i := 430) (by decide +kernel)⟩
theorem lw_p30 : lw_okq (⟨"SkyBulletinModel", "split", "()V"⟩, 32) := ⟨⟨by decide +kernel, by decide +kernel⟩, List.mem_of_getElem? (i := 588) (by decide +kernel), List.mem_of_getElem? (i := 702) (by decide +kernel), List.mem_of_getElem? (i := 703) (by decide +kernel)⟩
theorem lw_p31 : lw_okq (⟨"SkyBulletinModel", "blank", "()V"⟩, 32) := ⟨⟨by decide +kernel, by decide +kernel⟩, List.mem_of_getElem? (i := 588) (by decide +kernel), List.mem_of_getElem? (i := 706) (by decide +kernel), List.mem_of_getElem? (i := 707) (by decide +kernel)⟩
def lw_privs_2 : List (MethodName × Nat) := [(⟨"SkyBulletin$Reader", "signNumber", "()I"⟩, 8), (⟨"SkyBulletin$Reader", "pairAt", "(ILjava/lang/String;)I"⟩, 8), (⟨"SkyBulletin$Reader", "takeClouds", "(LSkyBulletin$Group;)Z"⟩, 8), (⟨"SkyBulletin$Reader", "layerNumber", "()I"⟩, 8), (⟨"SkyBulletin$Reader", "takeTemperatures", "()Z"⟩, 8), (⟨"SkyBulletin$Reader", "degreesAt", "(I)I"⟩, 8), (⟨"SkyBulletin$Reader", "takePressure", "()Z"⟩, 8), (⟨"SkyBulletin$Reader", "takeForecast", "()Z"⟩, 8), (⟨"SkyBulletin$Reader", "takeForecastPeriod", "(LSkyBulletin$Group;)Z"⟩, 8), (⟨"SkyBulletin$Reader", "findPeriod", "(LSkyBulletin$Group;I)Z"⟩, 8), (⟨"SkyBulletin$Reader", "takeFromTime", "(LSkyBulletin$Group;)Z"⟩, 8), (⟨"SkyBulletin$Reader", "takeChangeName", "(LSkyBulletin$Group;)Z"⟩, 8), (⟨"SkyBulletin$Reader", "takeChangePeriod", "(LSkyBulletin$Group;)Z"⟩, 8), (⟨"SkyBulletin$Reader", "takeParts", "(LSkyBulletin$Group;)Z"⟩, 8), (⟨"SkyBulletinModel", "split", "()V"⟩, 32), (⟨"SkyBulletinModel", "blank", "()V"⟩, 32)]
theorem lw_r2 : ∀ q ∈ lw_privs_2, lw_okq q := List.forall_mem_cons.mpr ⟨lw_p16, List.forall_mem_cons.mpr ⟨lw_p17, List.forall_mem_cons.mpr ⟨lw_p18, List.forall_mem_cons.mpr ⟨lw_p19, List.forall_mem_cons.mpr ⟨lw_p20, List.forall_mem_cons.mpr ⟨lw_p21, List.forall_mem_cons.mpr ⟨lw_p22, List.forall_mem_cons.mpr ⟨lw_p23, List.forall_mem_cons.mpr ⟨lw_p24, List.forall_mem_cons.mpr ⟨lw_p25, List.forall_mem_cons.mpr ⟨lw_p26, List.forall_mem_cons.mpr ⟨lw_p27, List.forall_mem_cons.mpr ⟨lw_p28, List.forall_mem_cons.mpr ⟨lw_p29, List.forall_mem_cons.mpr ⟨lw_p30, List.forall_mem_cons.mpr ⟨lw_p31, fun _ h => absurd h List.not_mem_nil⟩⟩⟩⟩⟩⟩⟩⟩⟩⟩⟩⟩⟩⟩⟩⟩
theorem lw_p32 : lw_okq (⟨"SkyBulletinModel", "word", "()J"⟩, 32) := ⟨⟨by decide +kernel, by decide +kernel⟩, List.mem_of_getElem? (i := 588) (by decide +kernel), List.mem_of_getElem? (i := 710) (by decide +kernel), List.mem_of_getElem? (i := 711) (by decide +kernel)⟩
theorem lw_p33 : lw_okq (⟨"SkyBulletinModel", "size", "()I"⟩, 32) := ⟨⟨by decide +kernel, by decide +kernel⟩, List.mem_of_getElem? (i := 588) (by decide +kernel), List.mem_of_getElem? (i := 714) (by decide +kernel), List.mem_of_getElem? (i := 715) (by decide +kernel)⟩
theorem lw_p34 : lw_okq (⟨"SkyBulletinModel", "sign", "(I)I"⟩, 32) := ⟨⟨by decide +kernel, by decide +kernel⟩, List.mem_of_getElem? (i := 588) (by decide +kernel), List.mem_of_getElem? (i := 718) (by decide +kernel), List.mem_of_getElem? (i := 719) (by decide +kernel)⟩
theorem lw_p35 : lw_okq (⟨"SkyBulletinModel", "report", "()Z"⟩, 32) := ⟨⟨by decide +kernel, by decide +kernel⟩, List.mem_of_getElem? (i := 588) (by decide +kernel), List.mem_of_getElem? (i := 724) (by decide +kernel), List.mem_of_getElem? (i := 725) (by decide +kernel)⟩
theorem lw_p36 : lw_okq (⟨"SkyBulletinModel", "station", "()Z"⟩, 32) := ⟨⟨by decide +kernel, by decide +kernel⟩, List.mem_of_getElem? (i := 588) (by decide +kernel), List.mem_of_getElem? (i := 728) (by decide +kernel), List.mem_of_getElem? (i := 729) (by decide +kernel)⟩
theorem lw_p37 : lw_okq (⟨"SkyBulletinModel", "issued", "()Z"⟩, 32) := ⟨⟨by decide +kernel, by decide +kernel⟩, List.mem_of_getElem? (i := 588) (by decide +kernel), List.mem_of_getElem? (i := 732) (by decide +kernel), List.mem_of_getElem? (i := 733) (by decide +kernel)⟩
theorem lw_p38 : lw_okq (⟨"SkyBulletinModel", "number", "(II)I"⟩, 32) := ⟨⟨by decide +kernel, by decide +kernel⟩, List.mem_of_getElem? (i := 588) (by decide +kernel), List.mem_of_getElem? (i := 736) (by decide +kernel), List.mem_of_getElem? (i := 737) (by decide +kernel)⟩
theorem lw_p39 : lw_okq (⟨"SkyBulletinModel", "isDay", "(I)Z"⟩, 32) := ⟨⟨by decide +kernel, by decide +kernel⟩, List.mem_of_getElem? (i := 588) (by decide +kernel), List.mem_of_getElem? (i := 740) (by decide +kernel), List.mem_of_getElem? (i := 741) (by decide +kernel)⟩
theorem lw_p40 : lw_okq (⟨"SkyBulletinModel", "isIn", "(II)Z"⟩, 32) := ⟨⟨by decide +kernel, by decide +kernel⟩, List.mem_of_getElem? (i := 588) (by decide +kernel), List.mem_of_getElem? (i := 744) (by decide +kernel), List.mem_of_getElem? (i := 745) (by decide +kernel)⟩
theorem lw_p41 : lw_okq (⟨"SkyBulletinModel", "wind", "(I)Z"⟩, 32) := ⟨⟨by decide +kernel, by decide +kernel⟩, List.mem_of_getElem? (i := 588) (by decide +kernel), List.mem_of_getElem? (i := 748) (by decide +kernel), List.mem_of_getElem? (i := 749) (by decide +kernel)⟩
theorem lw_p42 : lw_okq (⟨"SkyBulletinModel", "sky", "(I)Z"⟩, 32) := ⟨⟨by decide +kernel, by decide +kernel⟩, List.mem_of_getElem? (i := 588) (by decide +kernel), List.mem_of_getElem? (i := 752) (by decide +kernel), List.mem_of_getElem? (i := 753) (by decide +kernel)⟩
theorem lw_p43 : lw_okq (⟨"SkyBulletinModel", "clear", "(I)Z"⟩, 32) := ⟨⟨by decide +kernel, by decide +kernel⟩, List.mem_of_getElem? (i := 588) (by decide +kernel), List.mem_of_getElem? (i := 756) (by decide +kernel), List.mem_of_getElem? (i := 757) (by decide +kernel)⟩
theorem lw_p44 : lw_okq (⟨"SkyBulletinModel", "visibility", "(I)Z"⟩, 32) := ⟨⟨by decide +kernel, by decide +kernel⟩, List.mem_of_getElem? (i := 588) (by decide +kernel), List.mem_of_getElem? (i := 761) (by decide +kernel), List.mem_of_getElem? (i := 762) (by decide +kernel)⟩
theorem lw_p45 : lw_okq (⟨"SkyBulletinModel", "weatherOf", "(I)I"⟩, 32) := ⟨⟨by decide +kernel, by decide +kernel⟩, List.mem_of_getElem? (i := 588) (by decide +kernel), List.mem_of_getElem? (i := 765) (by decide +kernel), List.mem_of_getElem? (i := 766) (by decide +kernel)⟩
theorem lw_p46 : lw_okq (⟨"SkyBulletinModel", "weatherHere", "()I"⟩, 32) := ⟨⟨by decide +kernel, by decide +kernel⟩, List.mem_of_getElem? (i := 588) (by decide +kernel), List.mem_of_getElem? (i := 769) (by decide +kernel), List.mem_of_getElem? (i := 770) (by decide +kernel)⟩
theorem lw_p47 : lw_okq (⟨"SkyBulletinModel", "pair", "(I)I"⟩, 32) := ⟨⟨by decide +kernel, by decide +kernel⟩, List.mem_of_getElem? (i := 588) (by decide +kernel), List.mem_of_getElem? (i := 773) (by decide +kernel), List.mem_of_getElem? (i := 774) (by decide +kernel)⟩
def lw_privs_3 : List (MethodName × Nat) := [(⟨"SkyBulletinModel", "word", "()J"⟩, 32), (⟨"SkyBulletinModel", "size", "()I"⟩, 32), (⟨"SkyBulletinModel", "sign", "(I)I"⟩, 32), (⟨"SkyBulletinModel", "report", "()Z"⟩, 32), (⟨"SkyBulletinModel", "station", "()Z"⟩, 32), (⟨"SkyBulletinModel", "issued", "()Z"⟩, 32), (⟨"SkyBulletinModel", "number", "(II)I"⟩, 32), (⟨"SkyBulletinModel", "isDay", "(I)Z"⟩, 32), (⟨"SkyBulletinModel", "isIn", "(II)Z"⟩, 32), (⟨"SkyBulletinModel", "wind", "(I)Z"⟩, 32), (⟨"SkyBulletinModel", "sky", "(I)Z"⟩, 32), (⟨"SkyBulletinModel", "clear", "(I)Z"⟩, 32), (⟨"SkyBulletinModel", "visibility", "(I)Z"⟩, 32), (⟨"SkyBulletinModel", "weatherOf", "(I)I"⟩, 32), (⟨"SkyBulletinModel", "weatherHere", "()I"⟩, 32), (⟨"SkyBulletinModel", "pair", "(I)I"⟩, 32)]
theorem lw_r3 : ∀ q ∈ lw_privs_3, lw_okq q := List.forall_mem_cons.mpr ⟨lw_p32, List.forall_mem_cons.mpr ⟨lw_p33, List.forall_mem_cons.mpr ⟨lw_p34, List.forall_mem_cons.mpr ⟨lw_p35, List.forall_mem_cons.mpr ⟨lw_p36, List.forall_mem_cons.mpr ⟨lw_p37, List.forall_mem_cons.mpr ⟨lw_p38, List.forall_mem_cons.mpr ⟨lw_p39, List.forall_mem_cons.mpr ⟨lw_p40, List.forall_mem_cons.mpr ⟨lw_p41, List.forall_mem_cons.mpr ⟨lw_p42, List.forall_mem_cons.mpr ⟨lw_p43, List.forall_mem_cons.mpr ⟨lw_p44, List.forall_mem_cons.mpr ⟨lw_p45, List.forall_mem_cons.mpr ⟨lw_p46, List.forall_mem_cons.mpr ⟨lw_p47, fun _ h => absurd h List.not_mem_nil⟩⟩⟩⟩⟩⟩⟩⟩⟩⟩⟩⟩⟩⟩⟩⟩
theorem lw_p48 : lw_okq (⟨"SkyBulletinModel", "cloudsOf", "(I)Z"⟩, 32) := ⟨⟨by decide +kernel, by decide +kernel⟩, List.mem_of_getElem? (i := 588) (by decide +kernel), List.mem_of_getElem? (i := 786) (by decide +kernel), List.mem_of_getElem? (i := 787) (by decide +kernel)⟩
theorem lw_p49 : lw_okq (⟨"SkyBulletinModel", "cloudHere", "()I"⟩, 32) := ⟨⟨by decide +kernel, by decide +kernel⟩, List.mem_of_getElem? (i := 588) (by decide +kernel), List.mem_of_getElem? (i := 791) (by decide +kernel), List.mem_of_getElem? (i := 792) (by decide +kernel)⟩
theorem lw_p50 : lw_okq (⟨"SkyBulletinModel", "ends", "()Z"⟩, 32) := ⟨⟨by decide +kernel, by decide +kernel⟩, List.mem_of_getElem? (i := 588) (by decide +kernel), List.mem_of_getElem? (i := 799) (by decide +kernel), List.mem_of_getElem? (i := 800) (by decide +kernel)⟩
theorem lw_p51 : lw_okq (⟨"SkyBulletinModel", "forecast", "()Z"⟩, 32) := ⟨⟨by decide +kernel, by decide +kernel⟩, List.mem_of_getElem? (i := 588) (by decide +kernel), List.mem_of_getElem? (i := 803) (by decide +kernel), List.mem_of_getElem? (i := 804) (by decide +kernel)⟩
theorem lw_p52 : lw_okq (⟨"SkyBulletinModel", "period", "(I)Z"⟩, 32) := ⟨⟨by decide +kernel, by decide +kernel⟩, List.mem_of_getElem? (i := 588) (by decide +kernel), List.mem_of_getElem? (i := 807) (by decide +kernel), List.mem_of_getElem? (i := 808) (by decide +kernel)⟩
theorem lw_p53 : lw_okq (⟨"SkyBulletinModel", "isPeriod", "()Z"⟩, 32) := ⟨⟨by decide +kernel, by decide +kernel⟩, List.mem_of_getElem? (i := 588) (by decide +kernel), List.mem_of_getElem? (i := 811) (by decide +kernel), List.mem_of_getElem? (i := 812) (by decide +kernel)⟩
theorem lw_p54 : lw_okq (⟨"SkyBulletinModel", "change", "(II)Z"⟩, 32) := ⟨⟨by decide +kernel, by decide +kernel⟩, List.mem_of_getElem? (i := 588) (by decide +kernel), List.mem_of_getElem? (i := 815) (by decide +kernel), List.mem_of_getElem? (i := 816) (by decide +kernel)⟩
theorem lw_p55 : lw_okq (⟨"SkyBulletinModel", "since", "(II)Z"⟩, 32) := ⟨⟨by decide +kernel, by decide +kernel⟩, List.mem_of_getElem? (i := 588) (by decide +kernel), List.mem_of_getElem? (i := 819) (by decide +kernel), List.mem_of_getElem? (i := 820) (by decide +kernel)⟩
theorem lw_p56 : lw_okq (⟨"SkyBulletinModel", "parts", "(I)Z"⟩, 32) := ⟨⟨by decide +kernel, by decide +kernel⟩, List.mem_of_getElem? (i := 588) (by decide +kernel), List.mem_of_getElem? (i := 827) (by decide +kernel), List.mem_of_getElem? (i := 828) (by decide +kernel)⟩
theorem lw_p57 : lw_okq (⟨"SkyBulletinModel", "keep", "()V"⟩, 32) := ⟨⟨by decide +kernel, by decide +kernel⟩, List.mem_of_getElem? (i := 588) (by decide +kernel), List.mem_of_getElem? (i := 832) (by decide +kernel), List.mem_of_getElem? (i := 833) (by decide +kernel)⟩
theorem lw_p58 : lw_okq (⟨"SkyBulletinModel", "isGroup", "(I)Z"⟩, 32) := ⟨⟨by decide +kernel, by decide +kernel⟩, List.mem_of_getElem? (i := 588) (by decide +kernel), List.mem_of_getElem? (i := 844) (by decide +kernel), List.mem_of_getElem? (i := 845) (by decide +kernel)⟩
theorem lw_p59 : lw_okq (⟨"SkyBulletinModel", "isMinute", "(I)Z"⟩, 32) := ⟨⟨by decide +kernel, by decide +kernel⟩, List.mem_of_getElem? (i := 588) (by decide +kernel), List.mem_of_getElem? (i := 860) (by decide +kernel), List.mem_of_getElem? (i := 861) (by decide +kernel)⟩
theorem lw_p60 : lw_okq (⟨"SkyBulletinModel", "teller", "(II)I"⟩, 32) := ⟨⟨by decide +kernel, by decide +kernel⟩, List.mem_of_getElem? (i := 588) (by decide +kernel), List.mem_of_getElem? (i := 867) (by decide +kernel), List.mem_of_getElem? (i := 868) (by decide +kernel)⟩
theorem lw_p61 : lw_okq (⟨"SkyBulletinModel", "isActive", "(II)Z"⟩, 32) := ⟨⟨by decide +kernel, by decide +kernel⟩, List.mem_of_getElem? (i := 588) (by decide +kernel), List.mem_of_getElem? (i := 875) (by decide +kernel), List.mem_of_getElem? (i := 876) (by decide +kernel)⟩
theorem lw_p62 : lw_okq (⟨"SkyBulletinModel", "lowest", "(II)I"⟩, 32) := ⟨⟨by decide +kernel, by decide +kernel⟩, List.mem_of_getElem? (i := 588) (by decide +kernel), List.mem_of_getElem? (i := 891) (by decide +kernel), List.mem_of_getElem? (i := 892) (by decide +kernel)⟩
theorem lw_p63 : lw_okq (⟨"SkyBulletinModel", "isOther", "(I)Z"⟩, 32) := ⟨⟨by decide +kernel, by decide +kernel⟩, List.mem_of_getElem? (i := 588) (by decide +kernel), List.mem_of_getElem? (i := 899) (by decide +kernel), List.mem_of_getElem? (i := 900) (by decide +kernel)⟩
def lw_privs_4 : List (MethodName × Nat) := [(⟨"SkyBulletinModel", "cloudsOf", "(I)Z"⟩, 32), (⟨"SkyBulletinModel", "cloudHere", "()I"⟩, 32), (⟨"SkyBulletinModel", "ends", "()Z"⟩, 32), (⟨"SkyBulletinModel", "forecast", "()Z"⟩, 32), (⟨"SkyBulletinModel", "period", "(I)Z"⟩, 32), (⟨"SkyBulletinModel", "isPeriod", "()Z"⟩, 32), (⟨"SkyBulletinModel", "change", "(II)Z"⟩, 32), (⟨"SkyBulletinModel", "since", "(II)Z"⟩, 32), (⟨"SkyBulletinModel", "parts", "(I)Z"⟩, 32), (⟨"SkyBulletinModel", "keep", "()V"⟩, 32), (⟨"SkyBulletinModel", "isGroup", "(I)Z"⟩, 32), (⟨"SkyBulletinModel", "isMinute", "(I)Z"⟩, 32), (⟨"SkyBulletinModel", "teller", "(II)I"⟩, 32), (⟨"SkyBulletinModel", "isActive", "(II)Z"⟩, 32), (⟨"SkyBulletinModel", "lowest", "(II)I"⟩, 32), (⟨"SkyBulletinModel", "isOther", "(I)Z"⟩, 32)]
theorem lw_r4 : ∀ q ∈ lw_privs_4, lw_okq q := List.forall_mem_cons.mpr ⟨lw_p48, List.forall_mem_cons.mpr ⟨lw_p49, List.forall_mem_cons.mpr ⟨lw_p50, List.forall_mem_cons.mpr ⟨lw_p51, List.forall_mem_cons.mpr ⟨lw_p52, List.forall_mem_cons.mpr ⟨lw_p53, List.forall_mem_cons.mpr ⟨lw_p54, List.forall_mem_cons.mpr ⟨lw_p55, List.forall_mem_cons.mpr ⟨lw_p56, List.forall_mem_cons.mpr ⟨lw_p57, List.forall_mem_cons.mpr ⟨lw_p58, List.forall_mem_cons.mpr ⟨lw_p59, List.forall_mem_cons.mpr ⟨lw_p60, List.forall_mem_cons.mpr ⟨lw_p61, List.forall_mem_cons.mpr ⟨lw_p62, List.forall_mem_cons.mpr ⟨lw_p63, fun _ h => absurd h List.not_mem_nil⟩⟩⟩⟩⟩⟩⟩⟩⟩⟩⟩⟩⟩⟩⟩⟩
def lw_privs : List (MethodName × Nat) := lw_privs_1 ++ (lw_privs_2 ++ (lw_privs_3 ++ (lw_privs_4)))
def lw_tbl : List Cond := k2_sels lw_privs ++ tables_1
theorem lw_privs_ok : ∀ q ∈ lw_privs, lw_okq q := by
  show ∀ q ∈ lw_privs_1 ++ (lw_privs_2 ++ (lw_privs_3 ++ (lw_privs_4))), lw_okq q
  exact List.forall_mem_append.mpr ⟨lw_r1, List.forall_mem_append.mpr ⟨lw_r2, List.forall_mem_append.mpr ⟨lw_r3, lw_r4⟩⟩⟩
end
section
/-! ===== BEGIN words of one list among another's, by their places ===== -/
theorem goodIn_r {big : List Cond} (ws : List Cond) (ps : List Nat) (hp : ws = ps.filterMap (fun i => big[i]?)) (h : ws.all goodWord = true) : GoodIn big ws := by
  intro w hw
  have h1 := List.all_eq_true.mp h w hw
  rw [hp] at hw
  obtain ⟨i, -, hi⟩ := List.mem_filterMap.mp hw
  have hm : w ∈ big := by first | exact List.mem_of_getElem? hi | exact List.getElem?_mem hi
  exact ⟨hm, good_of_word h1⟩
theorem goodIn_app {big a b : List Cond} (ha : GoodIn big a) (hb : GoodIn big b) : GoodIn big (a ++ b) := fun w h => (List.mem_append.mp h).elim (ha w) (hb w)
theorem goodIn_ca {big a b : List Cond} {c : Cond} (ha : GoodIn big (c :: a)) (hb : GoodIn big b) : GoodIn big (c :: (a ++ b)) := fun w h => (List.mem_cons.mp h).elim (fun e => ha w (List.mem_cons.mpr (Or.inl e))) (fun h => (List.mem_append.mp h).elim (fun h => ha w (List.mem_cons.mpr (Or.inr h))) (hb w))
theorem goodIn_sub {big ws : List Cond} (hm : ∀ w ∈ ws, w ∈ big) (h : ws.all goodWord = true) : GoodIn big ws := fun w hw => ⟨hm w hw, good_of_word (List.all_eq_true.mp h w hw)⟩
/-! ===== END ===== -/

/-! ===== BEGIN printed: names, fields, word lists, decode rows ===== -/
def RX0 : String := "SkyBulletin$Bulletin"
def TX0 : u_T := fun k => match k with
  | 0 => ("SkyBulletin$Bulletin", "kind", "I", false)
  | 1 => ("SkyBulletin$Bulletin", "days", "I", false)
  | 2 => ("SkyBulletin$Bulletin", "issue", "I", false)
  | 3 => ("SkyBulletin$Bulletin", "temperature", "I", false)
  | 4 => ("SkyBulletin$Bulletin", "dewPoint", "I", false)
  | 5 => ("SkyBulletin$Bulletin", "pressure", "I", false)
  | 6 => ("SkyBulletin$Bulletin", "station", "[I", true)
  | 7 => ("SkyBulletin$Bulletin", "groupCount", "I", false)
  | 8 => ("SkyBulletin$Bulletin", "groups", "[LSkyBulletin$Group;", true)
  | 9 => ("SkyBulletin$Bulletin", "text", "[C", true)
  | _ => ("SkyBulletin$Bulletin", "textLength", "I", false)
def tyX0 : Nat → FieldType := fun k => match k with
  | 0 => .int
  | 1 => .int
  | 2 => .int
  | 3 => .int
  | 4 => .int
  | 5 => .int
  | 6 => .array .int
  | 7 => .int
  | 8 => .array (.object "SkyBulletin$Group")
  | 9 => .array .char
  | _ => .int
abbrev wsX00 : List Cond := u_ws RX0 TX0 11
theorem nmX0 : ∀ a, a < 11 → ∀ b, b < 11 → a ≠ b → (TX0 a).2.1 ≠ (TX0 b).2.1 := by decide +kernel
theorem tyX0_ok : ∀ k, k < 11 → parseFieldDescriptor (TX0 k).2.2.1 = some (tyX0 k) := by decide +kernel
abbrev cX0_init : ByteArray := prog_2_method_1_code
def yX0_init : MethodName := ⟨RX0, "<init>", "()V"⟩
abbrev cX0_start : ByteArray := prog_2_method_2_code
def yX0_start : MethodName := ⟨RX0, "start", "(I)V"⟩
abbrev cX0_hasGroup : ByteArray := prog_2_method_3_code
def yX0_hasGroup : MethodName := ⟨RX0, "hasGroup", "(I)Z"⟩
abbrev cX0_addGroup : ByteArray := prog_2_method_4_code
def yX0_addGroup : MethodName := ⟨RX0, "addGroup", "()V"⟩
abbrev cX0_keepTokens : ByteArray := prog_2_method_5_code
def yX0_keepTokens : MethodName := ⟨RX0, "keepTokens", "([CI)V"⟩
abbrev cX0_covers : ByteArray := prog_2_method_6_code
def yX0_covers : MethodName := ⟨RX0, "covers", "(I)Z"⟩
abbrev cX0_teller : ByteArray := prog_2_method_7_code
def yX0_teller : MethodName := ⟨RX0, "teller", "(II)I"⟩
abbrev cX0_countActive : ByteArray := prog_2_method_8_code
def yX0_countActive : MethodName := ⟨RX0, "countActive", "(I)I"⟩
abbrev cX0_findActive : ByteArray := prog_2_method_9_code
def yX0_findActive : MethodName := ⟨RX0, "findActive", "(II)I"⟩
abbrev cX0_leastVisibility : ByteArray := prog_2_method_10_code
def yX0_leastVisibility : MethodName := ⟨RX0, "leastVisibility", "(I)I"⟩
abbrev cX0_lowestCeiling : ByteArray := prog_2_method_11_code
def yX0_lowestCeiling : MethodName := ⟨RX0, "lowestCeiling", "(IZ)I"⟩
abbrev cX0_nextTurn : ByteArray := prog_2_method_12_code
def yX0_nextTurn : MethodName := ⟨RX0, "nextTurn", "(I)I"⟩
abbrev cX0_nearerTurn : ByteArray := prog_2_method_13_code
def yX0_nearerTurn : MethodName := ⟨RX0, "nearerTurn", "(III)I"⟩
abbrev cX0_isTurn : ByteArray := prog_2_method_14_code
def yX0_isTurn : MethodName := ⟨RX0, "isTurn", "(I)Z"⟩
abbrev cX0_eachMinuteTells : ByteArray := prog_2_method_15_code
def yX0_eachMinuteTells : MethodName := ⟨RX0, "eachMinuteTells", "()Z"⟩
abbrev cX0_minuteTells : ByteArray := prog_2_method_16_code
def yX0_minuteTells : MethodName := ⟨RX0, "minuteTells", "(I)Z"⟩
abbrev cX0_sameAs : ByteArray := prog_2_method_17_code
def yX0_sameAs : MethodName := ⟨RX0, "sameAs", "(LSkyBulletin$Bulletin;)Z"⟩
abbrev cX0_sameGroups : ByteArray := prog_2_method_18_code
def yX0_sameGroups : MethodName := ⟨RX0, "sameGroups", "(LSkyBulletin$Bulletin;)Z"⟩
abbrev cX0_sameText : ByteArray := prog_2_method_19_code
def yX0_sameText : MethodName := ⟨RX0, "sameText", "(LSkyBulletin$Bulletin;)Z"⟩
def RX1 : String := "SkyBulletin$Group"
def TX1 : u_T := fun k => match k with
  | 0 => ("SkyBulletin$Group", "kind", "I", false)
  | 1 => ("SkyBulletin$Group", "chance", "I", false)
  | 2 => ("SkyBulletin$Group", "begin", "I", false)
  | 3 => ("SkyBulletin$Group", "end", "I", false)
  | 4 => ("SkyBulletin$Group", "direction", "I", false)
  | 5 => ("SkyBulletin$Group", "speed", "I", false)
  | 6 => ("SkyBulletin$Group", "gusts", "I", false)
  | 7 => ("SkyBulletin$Group", "visibility", "I", false)
  | 8 => ("SkyBulletin$Group", "weatherCount", "I", false)
  | 9 => ("SkyBulletin$Group", "cloudCount", "I", false)
  | 10 => ("SkyBulletin$Group", "weathers", "[I", true)
  | _ => ("SkyBulletin$Group", "clouds", "[I", true)
def tyX1 : Nat → FieldType := fun k => match k with
  | 0 => .int
  | 1 => .int
  | 2 => .int
  | 3 => .int
  | 4 => .int
  | 5 => .int
  | 6 => .int
  | 7 => .int
  | 8 => .int
  | 9 => .int
  | 10 => .array .int
  | _ => .array .int
abbrev wsX10 : List Cond := u_ws RX1 TX1 12
theorem nmX1 : ∀ a, a < 12 → ∀ b, b < 12 → a ≠ b → (TX1 a).2.1 ≠ (TX1 b).2.1 := by decide +kernel
theorem tyX1_ok : ∀ k, k < 12 → parseFieldDescriptor (TX1 k).2.2.1 = some (tyX1 k) := by decide +kernel
abbrev cX1_init : ByteArray := prog_3_method_1_code
def yX1_init : MethodName := ⟨RX1, "<init>", "()V"⟩
abbrev cX1_clear : ByteArray := prog_3_method_2_code
def yX1_clear : MethodName := ⟨RX1, "clear", "()V"⟩
abbrev cX1_addWeather : ByteArray := prog_3_method_3_code
def yX1_addWeather : MethodName := ⟨RX1, "addWeather", "(I)V"⟩
abbrev cX1_addCloud : ByteArray := prog_3_method_4_code
def yX1_addCloud : MethodName := ⟨RX1, "addCloud", "(I)V"⟩
abbrev cX1_tells : ByteArray := prog_3_method_5_code
def yX1_tells : MethodName := ⟨RX1, "tells", "(I)Z"⟩
abbrev cX1_tellsSomething : ByteArray := prog_3_method_6_code
def yX1_tellsSomething : MethodName := ⟨RX1, "tellsSomething", "()Z"⟩
abbrev cX1_holdsAt : ByteArray := prog_3_method_7_code
def yX1_holdsAt : MethodName := ⟨RX1, "holdsAt", "(I)Z"⟩
abbrev cX1_isActiveAt : ByteArray := prog_3_method_8_code
def yX1_isActiveAt : MethodName := ⟨RX1, "isActiveAt", "(I)Z"⟩
abbrev cX1_lowerCeiling : ByteArray := prog_3_method_9_code
def yX1_lowerCeiling : MethodName := ⟨RX1, "lowerCeiling", "(I)I"⟩
abbrev cX1_sameAs : ByteArray := prog_3_method_10_code
def yX1_sameAs : MethodName := ⟨RX1, "sameAs", "(LSkyBulletin$Group;)Z"⟩
abbrev cX1_amountOf : ByteArray := prog_3_method_11_code
def yX1_amountOf : MethodName := ⟨RX1, "amountOf", "(I)I"⟩
abbrev cX1_heightOf : ByteArray := prog_3_method_12_code
def yX1_heightOf : MethodName := ⟨RX1, "heightOf", "(I)I"⟩
abbrev cX1_sameStart : ByteArray := prog_3_method_13_code
def yX1_sameStart : MethodName := ⟨RX1, "sameStart", "([I[II)Z"⟩
def RX2 : String := "SkyBulletin$Reader"
def TX2 : u_T := fun k => match k with
  | 0 => ("SkyBulletin$Reader", "source", "[C", false)
  | 1 => ("SkyBulletin$Reader", "length", "I", false)
  | 2 => ("SkyBulletin$Reader", "tokenBegin", "I", false)
  | 3 => ("SkyBulletin$Reader", "width", "I", false)
  | 4 => ("SkyBulletin$Reader", "token", "[C", true)
  | 5 => ("SkyBulletin$Reader", "days", "I", false)
  | 6 => ("SkyBulletin$Reader", "latestFrom", "I", false)
  | _ => ("SkyBulletin$Reader", "target", "LSkyBulletin$Bulletin;", false)
def tyX2 : Nat → FieldType := fun k => match k with
  | 0 => .array .char
  | 1 => .int
  | 2 => .int
  | 3 => .int
  | 4 => .array .char
  | 5 => .int
  | 6 => .int
  | _ => .object "SkyBulletin$Bulletin"
abbrev wsX20 : List Cond := u_ws RX2 TX2 8
theorem nmX2 : ∀ a, a < 8 → ∀ b, b < 8 → a ≠ b → (TX2 a).2.1 ≠ (TX2 b).2.1 := by decide +kernel
theorem tyX2_ok : ∀ k, k < 8 → parseFieldDescriptor (TX2 k).2.2.1 = some (tyX2 k) := by decide +kernel
abbrev cX2_init : ByteArray := prog_4_method_1_code
def yX2_init : MethodName := ⟨RX2, "<init>", "([CLSkyBulletin$Bulletin;)V"⟩
abbrev cX2_readText : ByteArray := prog_4_method_2_code
def yX2_readText : MethodName := ⟨RX2, "readText", "([CIILSkyBulletin$Bulletin;)I"⟩
abbrev cX2_takeHead : ByteArray := prog_4_method_3_code
def yX2_takeHead : MethodName := ⟨RX2, "takeHead", "()Z"⟩
abbrev cX2_takeReport : ByteArray := prog_4_method_4_code
def yX2_takeReport : MethodName := ⟨RX2, "takeReport", "()Z"⟩
abbrev cX2_takeForecast : ByteArray := prog_4_method_5_code
def yX2_takeForecast : MethodName := ⟨RX2, "takeForecast", "()Z"⟩
abbrev cX2_takeChangeName : ByteArray := prog_4_method_6_code
def yX2_takeChangeName : MethodName := ⟨RX2, "takeChangeName", "(LSkyBulletin$Group;)Z"⟩
abbrev cX2_takeWhole : ByteArray := prog_4_method_7_code
def yX2_takeWhole : MethodName := ⟨RX2, "takeWhole", "(LSkyBulletin$Group;)Z"⟩
abbrev cX2_takeParts : ByteArray := prog_4_method_8_code
def yX2_takeParts : MethodName := ⟨RX2, "takeParts", "(LSkyBulletin$Group;)Z"⟩
abbrev cX2_takeStation : ByteArray := prog_4_method_9_code
def yX2_takeStation : MethodName := ⟨RX2, "takeStation", "()Z"⟩
abbrev cX2_takeIssue : ByteArray := prog_4_method_10_code
def yX2_takeIssue : MethodName := ⟨RX2, "takeIssue", "()Z"⟩
abbrev cX2_takeTemperatures : ByteArray := prog_4_method_11_code
def yX2_takeTemperatures : MethodName := ⟨RX2, "takeTemperatures", "()Z"⟩
abbrev cX2_takePressure : ByteArray := prog_4_method_12_code
def yX2_takePressure : MethodName := ⟨RX2, "takePressure", "()Z"⟩
abbrev cX2_takeForecastPeriod : ByteArray := prog_4_method_13_code
def yX2_takeForecastPeriod : MethodName := ⟨RX2, "takeForecastPeriod", "(LSkyBulletin$Group;)Z"⟩
abbrev cX2_takeChangePeriod : ByteArray := prog_4_method_14_code
def yX2_takeChangePeriod : MethodName := ⟨RX2, "takeChangePeriod", "(LSkyBulletin$Group;)Z"⟩
abbrev cX2_findPeriod : ByteArray := prog_4_method_15_code
def yX2_findPeriod : MethodName := ⟨RX2, "findPeriod", "(LSkyBulletin$Group;I)Z"⟩
abbrev cX2_takeFromTime : ByteArray := prog_4_method_16_code
def yX2_takeFromTime : MethodName := ⟨RX2, "takeFromTime", "(LSkyBulletin$Group;)Z"⟩
abbrev cX2_takeWind : ByteArray := prog_4_method_17_code
def yX2_takeWind : MethodName := ⟨RX2, "takeWind", "(LSkyBulletin$Group;)Z"⟩
abbrev cX2_takeCavok : ByteArray := prog_4_method_18_code
def yX2_takeCavok : MethodName := ⟨RX2, "takeCavok", "(LSkyBulletin$Group;)Z"⟩
abbrev cX2_takeVisibility : ByteArray := prog_4_method_19_code
def yX2_takeVisibility : MethodName := ⟨RX2, "takeVisibility", "(LSkyBulletin$Group;)Z"⟩
abbrev cX2_takeWeathers : ByteArray := prog_4_method_20_code
def yX2_takeWeathers : MethodName := ⟨RX2, "takeWeathers", "(LSkyBulletin$Group;)V"⟩
abbrev cX2_weatherNumber : ByteArray := prog_4_method_21_code
def yX2_weatherNumber : MethodName := ⟨RX2, "weatherNumber", "()I"⟩
abbrev cX2_signNumber : ByteArray := prog_4_method_22_code
def yX2_signNumber : MethodName := ⟨RX2, "signNumber", "()I"⟩
abbrev cX2_takeClouds : ByteArray := prog_4_method_23_code
def yX2_takeClouds : MethodName := ⟨RX2, "takeClouds", "(LSkyBulletin$Group;)Z"⟩
abbrev cX2_layerNumber : ByteArray := prog_4_method_24_code
def yX2_layerNumber : MethodName := ⟨RX2, "layerNumber", "()I"⟩
abbrev cX2_timeAt : ByteArray := prog_4_method_25_code
def yX2_timeAt : MethodName := ⟨RX2, "timeAt", "(I)I"⟩
abbrev cX2_hourAt : ByteArray := prog_4_method_26_code
def yX2_hourAt : MethodName := ⟨RX2, "hourAt", "(II)I"⟩
abbrev cX2_degreesAt : ByteArray := prog_4_method_27_code
def yX2_degreesAt : MethodName := ⟨RX2, "degreesAt", "(I)I"⟩
abbrev cX2_digits : ByteArray := prog_4_method_28_code
def yX2_digits : MethodName := ⟨RX2, "digits", "(II)I"⟩
abbrev cX2_pairAt : ByteArray := prog_4_method_29_code
def yX2_pairAt : MethodName := ⟨RX2, "pairAt", "(ILjava/lang/String;)I"⟩
abbrev cX2_holds : ByteArray := prog_4_method_30_code
def yX2_holds : MethodName := ⟨RX2, "holds", "(ILjava/lang/String;)Z"⟩
abbrev cX2_takeWord : ByteArray := prog_4_method_31_code
def yX2_takeWord : MethodName := ⟨RX2, "takeWord", "(Ljava/lang/String;)Z"⟩
abbrev cX2_takeToken : ByteArray := prog_4_method_32_code
def yX2_takeToken : MethodName := ⟨RX2, "takeToken", "()Z"⟩
def RX3 : String := "SkyBulletin"
def TX3 : u_T := fun k => match k with
  | 0 => ("SkyBulletin", "typed", "[C", true)
  | 1 => ("SkyBulletin", "typedLength", "I", false)
  | 2 => ("SkyBulletin", "printed", "[C", true)
  | 3 => ("SkyBulletin", "printedLength", "I", false)
  | 4 => ("SkyBulletin", "kept", "LSkyBulletin$Bulletin;", false)
  | 5 => ("SkyBulletin", "draft", "LSkyBulletin$Bulletin;", false)
  | _ => ("SkyBulletin", "reader", "LSkyBulletin$Reader;", true)
def tyX3 : Nat → FieldType := fun k => match k with
  | 0 => .array .char
  | 1 => .int
  | 2 => .array .char
  | 3 => .int
  | 4 => .object "SkyBulletin$Bulletin"
  | 5 => .object "SkyBulletin$Bulletin"
  | _ => .object "SkyBulletin$Reader"
abbrev wsX30 : List Cond := u_ws RX3 TX3 7
theorem nmX3 : ∀ a, a < 7 → ∀ b, b < 7 → a ≠ b → (TX3 a).2.1 ≠ (TX3 b).2.1 := by decide +kernel
theorem tyX3_ok : ∀ k, k < 7 → parseFieldDescriptor (TX3 k).2.2.1 = some (tyX3 k) := by decide +kernel
abbrev cX3_init : ByteArray := prog_1_method_1_code
def yX3_init : MethodName := ⟨RX3, "<init>", "()V"⟩
abbrev cX3_type : ByteArray := prog_1_method_2_code
def yX3_type : MethodName := ⟨RX3, "type", "(JI)I"⟩
abbrev cX3_read : ByteArray := prog_1_method_3_code
def yX3_read : MethodName := ⟨RX3, "read", "(I)I"⟩
abbrev cX3_told : ByteArray := prog_1_method_4_code
def yX3_told : MethodName := ⟨RX3, "told", "(I)I"⟩
abbrev cX3_group : ByteArray := prog_1_method_5_code
def yX3_group : MethodName := ⟨RX3, "group", "(II)I"⟩
abbrev cX3_weather : ByteArray := prog_1_method_6_code
def yX3_weather : MethodName := ⟨RX3, "weather", "(II)I"⟩
abbrev cX3_cloud : ByteArray := prog_1_method_7_code
def yX3_cloud : MethodName := ⟨RX3, "cloud", "(II)I"⟩
abbrev cX3_from : ByteArray := prog_1_method_8_code
def yX3_from : MethodName := ⟨RX3, "from", "(II)I"⟩
abbrev cX3_active : ByteArray := prog_1_method_9_code
def yX3_active : MethodName := ⟨RX3, "active", "(I)I"⟩
abbrev cX3_activeOne : ByteArray := prog_1_method_10_code
def yX3_activeOne : MethodName := ⟨RX3, "activeOne", "(II)I"⟩
abbrev cX3_least : ByteArray := prog_1_method_11_code
def yX3_least : MethodName := ⟨RX3, "least", "(I)I"⟩
abbrev cX3_ceiling : ByteArray := prog_1_method_12_code
def yX3_ceiling : MethodName := ⟨RX3, "ceiling", "(II)I"⟩
abbrev cX3_next : ByteArray := prog_1_method_13_code
def yX3_next : MethodName := ⟨RX3, "next", "(I)I"⟩
abbrev cX3_print : ByteArray := prog_1_method_14_code
def yX3_print : MethodName := ⟨RX3, "print", "()I"⟩
abbrev cX3_character : ByteArray := prog_1_method_15_code
def yX3_character : MethodName := ⟨RX3, "character", "(I)I"⟩
abbrev cX3_check : ByteArray := prog_1_method_16_code
def yX3_check : MethodName := ⟨RX3, "check", "()I"⟩
abbrev cX3_byteOf : ByteArray := prog_1_method_17_code
def yX3_byteOf : MethodName := ⟨RX3, "byteOf", "(JI)I"⟩
def RX4 : String := "SkyBulletinModel"
def TX4 : u_T := fun k => match k with
  | 0 => ("SkyBulletinModel", "typed", "[I", true)
  | 1 => ("SkyBulletinModel", "length", "I", false)
  | 2 => ("SkyBulletinModel", "from", "[I", true)
  | 3 => ("SkyBulletinModel", "to", "[I", true)
  | 4 => ("SkyBulletinModel", "tokens", "I", false)
  | 5 => ("SkyBulletinModel", "at", "I", false)
  | 6 => ("SkyBulletinModel", "kind", "I", false)
  | 7 => ("SkyBulletinModel", "groups", "I", false)
  | 8 => ("SkyBulletinModel", "days", "I", false)
  | 9 => ("SkyBulletinModel", "issue", "I", false)
  | 10 => ("SkyBulletinModel", "issueDay", "I", false)
  | 11 => ("SkyBulletinModel", "warmth", "I", false)
  | 12 => ("SkyBulletinModel", "dew", "I", false)
  | 13 => ("SkyBulletinModel", "pressure", "I", false)
  | 14 => ("SkyBulletinModel", "letters", "[I", true)
  | 15 => ("SkyBulletinModel", "told", "[I", true)
  | 16 => ("SkyBulletinModel", "weathers", "[I", true)
  | 17 => ("SkyBulletinModel", "clouds", "[I", true)
  | 18 => ("SkyBulletinModel", "keptKind", "I", false)
  | 19 => ("SkyBulletinModel", "keptGroups", "I", false)
  | 20 => ("SkyBulletinModel", "keptIssue", "I", false)
  | 21 => ("SkyBulletinModel", "keptWarmth", "I", false)
  | 22 => ("SkyBulletinModel", "keptDew", "I", false)
  | 23 => ("SkyBulletinModel", "keptPressure", "I", false)
  | 24 => ("SkyBulletinModel", "keptLetters", "[I", true)
  | 25 => ("SkyBulletinModel", "kept", "[I", true)
  | 26 => ("SkyBulletinModel", "keptWeathers", "[I", true)
  | 27 => ("SkyBulletinModel", "keptClouds", "[I", true)
  | 28 => ("SkyBulletinModel", "text", "[I", true)
  | 29 => ("SkyBulletinModel", "textLength", "I", false)
  | 30 => ("SkyBulletinModel", "printed", "[I", true)
  | _ => ("SkyBulletinModel", "printedLength", "I", false)
def tyX4 : Nat → FieldType := fun k => match k with
  | 0 => .array .int
  | 1 => .int
  | 2 => .array .int
  | 3 => .array .int
  | 4 => .int
  | 5 => .int
  | 6 => .int
  | 7 => .int
  | 8 => .int
  | 9 => .int
  | 10 => .int
  | 11 => .int
  | 12 => .int
  | 13 => .int
  | 14 => .array .int
  | 15 => .array .int
  | 16 => .array .int
  | 17 => .array .int
  | 18 => .int
  | 19 => .int
  | 20 => .int
  | 21 => .int
  | 22 => .int
  | 23 => .int
  | 24 => .array .int
  | 25 => .array .int
  | 26 => .array .int
  | 27 => .array .int
  | 28 => .array .int
  | 29 => .int
  | 30 => .array .int
  | _ => .int
abbrev wsX40 : List Cond := u_ws RX4 TX4 32
theorem nmX4 : ∀ a, a < 32 → ∀ b, b < 32 → a ≠ b → (TX4 a).2.1 ≠ (TX4 b).2.1 := by decide +kernel
theorem tyX4_ok : ∀ k, k < 32 → parseFieldDescriptor (TX4 k).2.2.1 = some (tyX4 k) := by decide +kernel
abbrev cX4_init : ByteArray := prog_6_method_1_code
def yX4_init : MethodName := ⟨RX4, "<init>", "()V"⟩
abbrev cX4_type : ByteArray := prog_6_method_3_code
def yX4_type : MethodName := ⟨RX4, "type", "(JI)I"⟩
abbrev cX4_split : ByteArray := prog_6_method_4_code
def yX4_split : MethodName := ⟨RX4, "split", "()V"⟩
abbrev cX4_size : ByteArray := prog_6_method_5_code
def yX4_size : MethodName := ⟨RX4, "size", "()I"⟩
abbrev cX4_sign : ByteArray := prog_6_method_6_code
def yX4_sign : MethodName := ⟨RX4, "sign", "(I)I"⟩
abbrev cX4_word : ByteArray := prog_6_method_7_code
def yX4_word : MethodName := ⟨RX4, "word", "()J"⟩
abbrev cX4_number : ByteArray := prog_6_method_8_code
def yX4_number : MethodName := ⟨RX4, "number", "(II)I"⟩
abbrev cX4_pair : ByteArray := prog_6_method_9_code
def yX4_pair : MethodName := ⟨RX4, "pair", "(I)I"⟩
abbrev cX4_station : ByteArray := prog_6_method_10_code
def yX4_station : MethodName := ⟨RX4, "station", "()Z"⟩
abbrev cX4_isDay : ByteArray := prog_6_method_11_code
def yX4_isDay : MethodName := ⟨RX4, "isDay", "(I)Z"⟩
abbrev cX4_isIn : ByteArray := prog_6_method_12_code
def yX4_isIn : MethodName := ⟨RX4, "isIn", "(II)Z"⟩
abbrev cX4_issued : ByteArray := prog_6_method_13_code
def yX4_issued : MethodName := ⟨RX4, "issued", "()Z"⟩
abbrev cX4_ends : ByteArray := prog_6_method_14_code
def yX4_ends : MethodName := ⟨RX4, "ends", "()Z"⟩
abbrev cX4_wind : ByteArray := prog_6_method_15_code
def yX4_wind : MethodName := ⟨RX4, "wind", "(I)Z"⟩
abbrev cX4_visibility : ByteArray := prog_6_method_16_code
def yX4_visibility : MethodName := ⟨RX4, "visibility", "(I)Z"⟩
abbrev cX4_firstKind : ByteArray := prog_6_method_17_code
def yX4_firstKind : MethodName := ⟨RX4, "firstKind", "(I)I"⟩
abbrev cX4_secondKind : ByteArray := prog_6_method_18_code
def yX4_secondKind : MethodName := ⟨RX4, "secondKind", "(I)I"⟩
abbrev cX4_thirdKind : ByteArray := prog_6_method_19_code
def yX4_thirdKind : MethodName := ⟨RX4, "thirdKind", "(I)I"⟩
abbrev cX4_weatherHere : ByteArray := prog_6_method_20_code
def yX4_weatherHere : MethodName := ⟨RX4, "weatherHere", "()I"⟩
abbrev cX4_cloudHere : ByteArray := prog_6_method_21_code
def yX4_cloudHere : MethodName := ⟨RX4, "cloudHere", "()I"⟩
abbrev cX4_weatherOf : ByteArray := prog_6_method_22_code
def yX4_weatherOf : MethodName := ⟨RX4, "weatherOf", "(I)I"⟩
abbrev cX4_cloudsOf : ByteArray := prog_6_method_23_code
def yX4_cloudsOf : MethodName := ⟨RX4, "cloudsOf", "(I)Z"⟩
abbrev cX4_clear : ByteArray := prog_6_method_24_code
def yX4_clear : MethodName := ⟨RX4, "clear", "(I)Z"⟩
abbrev cX4_sky : ByteArray := prog_6_method_25_code
def yX4_sky : MethodName := ⟨RX4, "sky", "(I)Z"⟩
abbrev cX4_parts : ByteArray := prog_6_method_26_code
def yX4_parts : MethodName := ⟨RX4, "parts", "(I)Z"⟩
abbrev cX4_isPeriod : ByteArray := prog_6_method_27_code
def yX4_isPeriod : MethodName := ⟨RX4, "isPeriod", "()Z"⟩
abbrev cX4_period : ByteArray := prog_6_method_28_code
def yX4_period : MethodName := ⟨RX4, "period", "(I)Z"⟩
abbrev cX4_since : ByteArray := prog_6_method_29_code
def yX4_since : MethodName := ⟨RX4, "since", "(II)Z"⟩
abbrev cX4_blank : ByteArray := prog_6_method_30_code
def yX4_blank : MethodName := ⟨RX4, "blank", "()V"⟩
abbrev cX4_change : ByteArray := prog_6_method_31_code
def yX4_change : MethodName := ⟨RX4, "change", "(II)Z"⟩
abbrev cX4_forecast : ByteArray := prog_6_method_32_code
def yX4_forecast : MethodName := ⟨RX4, "forecast", "()Z"⟩
abbrev cX4_report : ByteArray := prog_6_method_33_code
def yX4_report : MethodName := ⟨RX4, "report", "()Z"⟩
abbrev cX4_read : ByteArray := prog_6_method_34_code
def yX4_read : MethodName := ⟨RX4, "read", "(I)I"⟩
abbrev cX4_keep : ByteArray := prog_6_method_35_code
def yX4_keep : MethodName := ⟨RX4, "keep", "()V"⟩
abbrev cX4_told : ByteArray := prog_6_method_36_code
def yX4_told : MethodName := ⟨RX4, "told", "(I)I"⟩
abbrev cX4_isGroup : ByteArray := prog_6_method_37_code
def yX4_isGroup : MethodName := ⟨RX4, "isGroup", "(I)Z"⟩
abbrev cX4_group : ByteArray := prog_6_method_38_code
def yX4_group : MethodName := ⟨RX4, "group", "(II)I"⟩
abbrev cX4_weather : ByteArray := prog_6_method_39_code
def yX4_weather : MethodName := ⟨RX4, "weather", "(II)I"⟩
abbrev cX4_cloud : ByteArray := prog_6_method_40_code
def yX4_cloud : MethodName := ⟨RX4, "cloud", "(II)I"⟩
abbrev cX4_isMinute : ByteArray := prog_6_method_41_code
def yX4_isMinute : MethodName := ⟨RX4, "isMinute", "(I)Z"⟩
abbrev cX4_teller : ByteArray := prog_6_method_42_code
def yX4_teller : MethodName := ⟨RX4, "teller", "(II)I"⟩
abbrev cX4_part : ByteArray := prog_6_method_43_code
def yX4_part : MethodName := ⟨RX4, "part", "(I)I"⟩
abbrev cX4_from : ByteArray := prog_6_method_44_code
def yX4_from : MethodName := ⟨RX4, "from", "(II)I"⟩
abbrev cX4_isActive : ByteArray := prog_6_method_45_code
def yX4_isActive : MethodName := ⟨RX4, "isActive", "(II)Z"⟩
abbrev cX4_active : ByteArray := prog_6_method_46_code
def yX4_active : MethodName := ⟨RX4, "active", "(I)I"⟩
abbrev cX4_activeOne : ByteArray := prog_6_method_47_code
def yX4_activeOne : MethodName := ⟨RX4, "activeOne", "(II)I"⟩
abbrev cX4_least : ByteArray := prog_6_method_48_code
def yX4_least : MethodName := ⟨RX4, "least", "(I)I"⟩
abbrev cX4_lowest : ByteArray := prog_6_method_49_code
def yX4_lowest : MethodName := ⟨RX4, "lowest", "(II)I"⟩
abbrev cX4_ceiling : ByteArray := prog_6_method_50_code
def yX4_ceiling : MethodName := ⟨RX4, "ceiling", "(II)I"⟩
abbrev cX4_isOther : ByteArray := prog_6_method_51_code
def yX4_isOther : MethodName := ⟨RX4, "isOther", "(I)Z"⟩
abbrev cX4_next : ByteArray := prog_6_method_52_code
def yX4_next : MethodName := ⟨RX4, "next", "(I)I"⟩
abbrev cX4_print : ByteArray := prog_6_method_53_code
def yX4_print : MethodName := ⟨RX4, "print", "()I"⟩
abbrev cX4_character : ByteArray := prog_6_method_54_code
def yX4_character : MethodName := ⟨RX4, "character", "(I)I"⟩
abbrev cX4_check : ByteArray := prog_6_method_55_code
def yX4_check : MethodName := ⟨RX4, "check", "()I"⟩
def RJ9 : String := "java/lang/Math"
def TJ9 : u_T := fun k => match k with
  | _ => ("", "", "", false)
def tyJ9 : Nat → FieldType := fun k => match k with
  | _ => .int
abbrev wsJ90 : List Cond := u_ws RJ9 TJ9 0
theorem nmJ9 : ∀ a, a < 0 → ∀ b, b < 0 → a ≠ b → (TJ9 a).2.1 ≠ (TJ9 b).2.1 := by decide +kernel
theorem tyJ9_ok : ∀ k, k < 0 → parseFieldDescriptor (TJ9 k).2.2.1 = some (tyJ9 k) := by decide +kernel
abbrev cJ9_max_7cf53 : ByteArray := prog_7_method_65_code
def yJ9_max_7cf53 : MethodName := ⟨RJ9, "max", "(II)I"⟩
abbrev cJ9_min_7cf53 : ByteArray := prog_7_method_69_code
def yJ9_min_7cf53 : MethodName := ⟨RJ9, "min", "(II)I"⟩
def RJ0 : String := "java/lang/String"
def TJ0 : u_T := fun k => match k with
  | _ => ("", "", "", false)
def tyJ0 : Nat → FieldType := fun k => match k with
  | _ => .int
abbrev wsJ00 : List Cond := u_ws RJ0 TJ0 0
theorem nmJ0 : ∀ a, a < 0 → ∀ b, b < 0 → a ≠ b → (TJ0 a).2.1 ≠ (TJ0 b).2.1 := by decide +kernel
theorem tyJ0_ok : ∀ k, k < 0 → parseFieldDescriptor (TJ0 k).2.2.1 = some (tyJ0 k) := by decide +kernel
abbrev cJ0_length_8abf5 : ByteArray := prog_8_method_54_code
def yJ0_length_8abf5 : MethodName := ⟨RJ0, "length", "()I"⟩
abbrev cJ0_charAt_5068e : ByteArray := prog_8_method_56_code
def yJ0_charAt_5068e : MethodName := ⟨RJ0, "charAt", "(I)C"⟩
abbrev cJ0_coder_7d493 : ByteArray := prog_8_method_152_code
def yJ0_coder_7d493 : MethodName := ⟨RJ0, "coder", "()B"⟩
abbrev cJ0_isLatin1_aae02 : ByteArray := prog_8_method_154_code
def yJ0_isLatin1_aae02 : MethodName := ⟨RJ0, "isLatin1", "()Z"⟩
abbrev cJ0_checkIndex_df160 : ByteArray := prog_8_method_155_code
def yJ0_checkIndex_df160 : MethodName := ⟨RJ0, "checkIndex", "(II)V"⟩
def RJ1 : String := "java/lang/StringLatin1"
def TJ1 : u_T := fun k => match k with
  | _ => ("", "", "", false)
def tyJ1 : Nat → FieldType := fun k => match k with
  | _ => .int
abbrev wsJ10 : List Cond := u_ws RJ1 TJ1 0
theorem nmJ1 : ∀ a, a < 0 → ∀ b, b < 0 → a ≠ b → (TJ1 a).2.1 ≠ (TJ1 b).2.1 := by decide +kernel
theorem tyJ1_ok : ∀ k, k < 0 → parseFieldDescriptor (TJ1 k).2.2.1 = some (tyJ1 k) := by decide +kernel
abbrev cJ1_charAt_3b067 : ByteArray := prog_9_method_2_code
def yJ1_charAt_3b067 : MethodName := ⟨RJ1, "charAt", "([BI)C"⟩
def RJ2 : String := "java/lang/StringUTF16"
def TJ2 : u_T := fun k => match k with
  | _ => ("", "", "", false)
def tyJ2 : Nat → FieldType := fun k => match k with
  | _ => .int
abbrev wsJ20 : List Cond := u_ws RJ2 TJ2 0
theorem nmJ2 : ∀ a, a < 0 → ∀ b, b < 0 → a ≠ b → (TJ2 a).2.1 ≠ (TJ2 b).2.1 := by decide +kernel
theorem tyJ2_ok : ∀ k, k < 0 → parseFieldDescriptor (TJ2 k).2.2.1 = some (tyJ2 k) := by decide +kernel
abbrev cJ2_getChar_3b067 : ByteArray := prog_10_method_5_code
def yJ2_getChar_3b067 : MethodName := ⟨RJ2, "getChar", "([BI)C"⟩
abbrev cJ2_length_9d52b : ByteArray := prog_10_method_6_code
def yJ2_length_9d52b : MethodName := ⟨RJ2, "length", "([B)I"⟩
abbrev cJ2_charAt_3b067 : ByteArray := prog_10_method_83_code
def yJ2_charAt_3b067 : MethodName := ⟨RJ2, "charAt", "([BI)C"⟩
abbrev cJ2_checkIndex_2214a : ByteArray := prog_10_method_91_code
def yJ2_checkIndex_2214a : MethodName := ⟨RJ2, "checkIndex", "(I[B)V"⟩
def RJ3 : String := "jdk/internal/util/Preconditions"
def TJ3 : u_T := fun k => match k with
  | _ => ("", "", "", false)
def tyJ3 : Nat → FieldType := fun k => match k with
  | _ => .int
abbrev wsJ30 : List Cond := u_ws RJ3 TJ3 0
theorem nmJ3 : ∀ a, a < 0 → ∀ b, b < 0 → a ≠ b → (TJ3 a).2.1 ≠ (TJ3 b).2.1 := by decide +kernel
theorem tyJ3_ok : ∀ k, k < 0 → parseFieldDescriptor (TJ3 k).2.2.1 = some (tyJ3 k) := by decide +kernel
abbrev cJ3_checkIndex_8e157 : ByteArray := prog_11_method_11_code
def yJ3_checkIndex_8e157 : MethodName := ⟨RJ3, "checkIndex", "(IILjava/util/function/BiFunction;)I"⟩
def RL : String := "SkyBulletinLaw"
abbrev cL_law : ByteArray := code
def yL_law : MethodName := ⟨RL, "law", "([I)Z"⟩
abbrev vwCl : List vw_C := [(RX0, TX0, 11), (RX1, TX1, 12), (RX2, TX2, 8), (RX3, TX3, 7), (RX4, TX4, 32)]
/-- the words that a callee may use: those of the tables that stay true -/
def jx_tb : List Cond := lw_tbl.filter goodWord
theorem jx_mem {w : Cond} (i : Nat) (h : lw_tbl[i]? = some w) (hg : goodWord w = true) : w ∈ jx_tb := List.mem_filter.mpr ⟨List.mem_of_getElem? h, hg⟩
theorem jx_tb_in : ∀ w ∈ jx_tb, w ∈ lw_tbl := fun w h => (List.mem_filter.mp h).1
theorem jx_tb_good : ∀ w ∈ jx_tb, goodWord w = true := fun w h => (List.mem_filter.mp h).2
set_option maxRecDepth 20000 in
theorem inlX0 : ∀ w ∈ u_ws RX0 TX0 11, w ∈ jx_tb := by
  intro w hw
  obtain ⟨k, hk, rfl⟩ := List.mem_map.mp hw
  have hk := List.mem_range.mp hk
  match k, hk with
  | 0, _ => exact jx_mem 189 (by decide +kernel) (by decide +kernel)
  | 1, _ => exact jx_mem 191 (by decide +kernel) (by decide +kernel)
  | 2, _ => exact jx_mem 193 (by decide +kernel) (by decide +kernel)
  | 3, _ => exact jx_mem 195 (by decide +kernel) (by decide +kernel)
  | 4, _ => exact jx_mem 197 (by decide +kernel) (by decide +kernel)
  | 5, _ => exact jx_mem 199 (by decide +kernel) (by decide +kernel)
  | 6, _ => exact jx_mem 201 (by decide +kernel) (by decide +kernel)
  | 7, _ => exact jx_mem 203 (by decide +kernel) (by decide +kernel)
  | 8, _ => exact jx_mem 205 (by decide +kernel) (by decide +kernel)
  | 9, _ => exact jx_mem 207 (by decide +kernel) (by decide +kernel)
  | 10, _ => exact jx_mem 209 (by decide +kernel) (by decide +kernel)
  | k + 11, hk => exact absurd hk (by omega)
set_option maxRecDepth 20000 in
theorem inlX1 : ∀ w ∈ u_ws RX1 TX1 12, w ∈ jx_tb := by
  intro w hw
  obtain ⟨k, hk, rfl⟩ := List.mem_map.mp hw
  have hk := List.mem_range.mp hk
  match k, hk with
  | 0, _ => exact jx_mem 133 (by decide +kernel) (by decide +kernel)
  | 1, _ => exact jx_mem 135 (by decide +kernel) (by decide +kernel)
  | 2, _ => exact jx_mem 137 (by decide +kernel) (by decide +kernel)
  | 3, _ => exact jx_mem 139 (by decide +kernel) (by decide +kernel)
  | 4, _ => exact jx_mem 141 (by decide +kernel) (by decide +kernel)
  | 5, _ => exact jx_mem 143 (by decide +kernel) (by decide +kernel)
  | 6, _ => exact jx_mem 145 (by decide +kernel) (by decide +kernel)
  | 7, _ => exact jx_mem 147 (by decide +kernel) (by decide +kernel)
  | 8, _ => exact jx_mem 149 (by decide +kernel) (by decide +kernel)
  | 9, _ => exact jx_mem 151 (by decide +kernel) (by decide +kernel)
  | 10, _ => exact jx_mem 153 (by decide +kernel) (by decide +kernel)
  | 11, _ => exact jx_mem 155 (by decide +kernel) (by decide +kernel)
  | k + 12, hk => exact absurd hk (by omega)
set_option maxRecDepth 20000 in
theorem inlX2 : ∀ w ∈ u_ws RX2 TX2 8, w ∈ jx_tb := by
  intro w hw
  obtain ⟨k, hk, rfl⟩ := List.mem_map.mp hw
  have hk := List.mem_range.mp hk
  match k, hk with
  | 0, _ => exact jx_mem 226 (by decide +kernel) (by decide +kernel)
  | 1, _ => exact jx_mem 228 (by decide +kernel) (by decide +kernel)
  | 2, _ => exact jx_mem 230 (by decide +kernel) (by decide +kernel)
  | 3, _ => exact jx_mem 232 (by decide +kernel) (by decide +kernel)
  | 4, _ => exact jx_mem 234 (by decide +kernel) (by decide +kernel)
  | 5, _ => exact jx_mem 236 (by decide +kernel) (by decide +kernel)
  | 6, _ => exact jx_mem 238 (by decide +kernel) (by decide +kernel)
  | 7, _ => exact jx_mem 240 (by decide +kernel) (by decide +kernel)
  | k + 8, hk => exact absurd hk (by omega)
set_option maxRecDepth 20000 in
theorem inlX3 : ∀ w ∈ u_ws RX3 TX3 7, w ∈ jx_tb := by
  intro w hw
  obtain ⟨k, hk, rfl⟩ := List.mem_map.mp hw
  have hk := List.mem_range.mp hk
  match k, hk with
  | 0, _ => exact jx_mem 250 (by decide +kernel) (by decide +kernel)
  | 1, _ => exact jx_mem 252 (by decide +kernel) (by decide +kernel)
  | 2, _ => exact jx_mem 254 (by decide +kernel) (by decide +kernel)
  | 3, _ => exact jx_mem 256 (by decide +kernel) (by decide +kernel)
  | 4, _ => exact jx_mem 258 (by decide +kernel) (by decide +kernel)
  | 5, _ => exact jx_mem 260 (by decide +kernel) (by decide +kernel)
  | 6, _ => exact jx_mem 262 (by decide +kernel) (by decide +kernel)
  | k + 7, hk => exact absurd hk (by omega)
set_option maxRecDepth 20000 in
theorem inlX4 : ∀ w ∈ u_ws RX4 TX4 32, w ∈ jx_tb := by
  intro w hw
  obtain ⟨k, hk, rfl⟩ := List.mem_map.mp hw
  have hk := List.mem_range.mp hk
  match k, hk with
  | 0, _ => exact jx_mem 689 (by decide +kernel) (by decide +kernel)
  | 1, _ => exact jx_mem 691 (by decide +kernel) (by decide +kernel)
  | 2, _ => exact jx_mem 693 (by decide +kernel) (by decide +kernel)
  | 3, _ => exact jx_mem 695 (by decide +kernel) (by decide +kernel)
  | 4, _ => exact jx_mem 697 (by decide +kernel) (by decide +kernel)
  | 5, _ => exact jx_mem 699 (by decide +kernel) (by decide +kernel)
  | 6, _ => exact jx_mem 701 (by decide +kernel) (by decide +kernel)
  | 7, _ => exact jx_mem 703 (by decide +kernel) (by decide +kernel)
  | 8, _ => exact jx_mem 705 (by decide +kernel) (by decide +kernel)
  | 9, _ => exact jx_mem 707 (by decide +kernel) (by decide +kernel)
  | 10, _ => exact jx_mem 709 (by decide +kernel) (by decide +kernel)
  | 11, _ => exact jx_mem 711 (by decide +kernel) (by decide +kernel)
  | 12, _ => exact jx_mem 713 (by decide +kernel) (by decide +kernel)
  | 13, _ => exact jx_mem 715 (by decide +kernel) (by decide +kernel)
  | 14, _ => exact jx_mem 717 (by decide +kernel) (by decide +kernel)
  | 15, _ => exact jx_mem 719 (by decide +kernel) (by decide +kernel)
  | 16, _ => exact jx_mem 721 (by decide +kernel) (by decide +kernel)
  | 17, _ => exact jx_mem 723 (by decide +kernel) (by decide +kernel)
  | 18, _ => exact jx_mem 725 (by decide +kernel) (by decide +kernel)
  | 19, _ => exact jx_mem 727 (by decide +kernel) (by decide +kernel)
  | 20, _ => exact jx_mem 729 (by decide +kernel) (by decide +kernel)
  | 21, _ => exact jx_mem 731 (by decide +kernel) (by decide +kernel)
  | 22, _ => exact jx_mem 733 (by decide +kernel) (by decide +kernel)
  | 23, _ => exact jx_mem 735 (by decide +kernel) (by decide +kernel)
  | 24, _ => exact jx_mem 737 (by decide +kernel) (by decide +kernel)
  | 25, _ => exact jx_mem 739 (by decide +kernel) (by decide +kernel)
  | 26, _ => exact jx_mem 741 (by decide +kernel) (by decide +kernel)
  | 27, _ => exact jx_mem 743 (by decide +kernel) (by decide +kernel)
  | 28, _ => exact jx_mem 745 (by decide +kernel) (by decide +kernel)
  | 29, _ => exact jx_mem 747 (by decide +kernel) (by decide +kernel)
  | 30, _ => exact jx_mem 749 (by decide +kernel) (by decide +kernel)
  | 31, _ => exact jx_mem 751 (by decide +kernel) (by decide +kernel)
  | k + 32, hk => exact absurd hk (by omega)
end
section
theorem dX0_init_0 : decode cX0_init 0 = .ok (.aload_n 0, 1) := by decide +kernel
theorem dX0_init_1 : decode cX0_init 1 = .ok (.invokespecial 3, 3) := by decide +kernel
theorem dX0_init_4 : decode cX0_init 4 = .ok (.aload_n 0, 1) := by decide +kernel
theorem dX0_init_5 : decode cX0_init 5 = .ok (.iconst 4, 1) := by decide +kernel
theorem dX0_init_6 : decode cX0_init 6 = .ok (.newarray .int, 2) := by decide +kernel
theorem dX0_init_8 : decode cX0_init 8 = .ok (.putfield 9, 3) := by decide +kernel
theorem dX0_init_11 : decode cX0_init 11 = .ok (.aload_n 0, 1) := by decide +kernel
theorem dX0_init_12 : decode cX0_init 12 = .ok (.bipush 9, 2) := by decide +kernel
theorem dX0_init_14 : decode cX0_init 14 = .ok (.anewarray 15, 3) := by decide +kernel
theorem dX0_init_17 : decode cX0_init 17 = .ok (.putfield 17, 3) := by decide +kernel
theorem dX0_init_20 : decode cX0_init 20 = .ok (.aload_n 0, 1) := by decide +kernel
theorem dX0_init_21 : decode cX0_init 21 = .ok (.sipush 700, 3) := by decide +kernel
theorem dX0_init_24 : decode cX0_init 24 = .ok (.newarray .char, 2) := by decide +kernel
theorem dX0_init_26 : decode cX0_init 26 = .ok (.putfield 21, 3) := by decide +kernel
theorem dX0_init_29 : decode cX0_init 29 = .ok (.iconst 0, 1) := by decide +kernel
theorem dX0_init_30 : decode cX0_init 30 = .ok (.istore_n 1, 1) := by decide +kernel
theorem dX0_init_31 : decode cX0_init 31 = .ok (.iload_n 1, 1) := by decide +kernel
theorem dX0_init_32 : decode cX0_init 32 = .ok (.bipush 9, 2) := by decide +kernel
theorem dX0_init_34 : decode cX0_init 34 = .ok (.if_icmp .ge 22, 3) := by decide +kernel
theorem dX0_init_37 : decode cX0_init 37 = .ok (.aload_n 0, 1) := by decide +kernel
theorem dX0_init_38 : decode cX0_init 38 = .ok (.getfield 17, 3) := by decide +kernel
theorem dX0_init_41 : decode cX0_init 41 = .ok (.iload_n 1, 1) := by decide +kernel
theorem dX0_init_42 : decode cX0_init 42 = .ok (.new 15, 3) := by decide +kernel
theorem dX0_init_45 : decode cX0_init 45 = .ok (.dup, 1) := by decide +kernel
theorem dX0_init_46 : decode cX0_init 46 = .ok (.invokespecial 25, 3) := by decide +kernel
theorem dX0_init_49 : decode cX0_init 49 = .ok (.aastore, 1) := by decide +kernel
theorem dX0_init_50 : decode cX0_init 50 = .ok (.iinc 1 1, 3) := by decide +kernel
theorem dX0_init_53 : decode cX0_init 53 = .ok (.goto (-22), 3) := by decide +kernel
theorem dX0_init_56 : decode cX0_init 56 = .ok (.return_, 1) := by decide +kernel
theorem dX0_start_0 : decode cX0_start 0 = .ok (.aload_n 0, 1) := by decide +kernel
theorem dX0_start_1 : decode cX0_start 1 = .ok (.iconst 0, 1) := by decide +kernel
theorem dX0_start_2 : decode cX0_start 2 = .ok (.putfield 26, 3) := by decide +kernel
theorem dX0_start_5 : decode cX0_start 5 = .ok (.aload_n 0, 1) := by decide +kernel
theorem dX0_start_6 : decode cX0_start 6 = .ok (.iload_n 1, 1) := by decide +kernel
theorem dX0_start_7 : decode cX0_start 7 = .ok (.putfield 30, 3) := by decide +kernel
theorem dX0_start_10 : decode cX0_start 10 = .ok (.aload_n 0, 1) := by decide +kernel
theorem dX0_start_11 : decode cX0_start 11 = .ok (.iconst (-1), 1) := by decide +kernel
theorem dX0_start_12 : decode cX0_start 12 = .ok (.putfield 33, 3) := by decide +kernel
theorem dX0_start_15 : decode cX0_start 15 = .ok (.aload_n 0, 1) := by decide +kernel
theorem dX0_start_16 : decode cX0_start 16 = .ok (.sipush (-1001), 3) := by decide +kernel
theorem dX0_start_19 : decode cX0_start 19 = .ok (.putfield 36, 3) := by decide +kernel
theorem dX0_start_22 : decode cX0_start 22 = .ok (.aload_n 0, 1) := by decide +kernel
theorem dX0_start_23 : decode cX0_start 23 = .ok (.sipush (-1001), 3) := by decide +kernel
theorem dX0_start_26 : decode cX0_start 26 = .ok (.putfield 39, 3) := by decide +kernel
theorem dX0_start_29 : decode cX0_start 29 = .ok (.aload_n 0, 1) := by decide +kernel
theorem dX0_start_30 : decode cX0_start 30 = .ok (.sipush (-1001), 3) := by decide +kernel
theorem dX0_start_33 : decode cX0_start 33 = .ok (.putfield 42, 3) := by decide +kernel
theorem dX0_start_36 : decode cX0_start 36 = .ok (.aload_n 0, 1) := by decide +kernel
theorem dX0_start_37 : decode cX0_start 37 = .ok (.iconst 0, 1) := by decide +kernel
theorem dX0_start_38 : decode cX0_start 38 = .ok (.putfield 45, 3) := by decide +kernel
theorem dX0_start_41 : decode cX0_start 41 = .ok (.aload_n 0, 1) := by decide +kernel
theorem dX0_start_42 : decode cX0_start 42 = .ok (.iconst 0, 1) := by decide +kernel
theorem dX0_start_43 : decode cX0_start 43 = .ok (.putfield 48, 3) := by decide +kernel
theorem dX0_start_46 : decode cX0_start 46 = .ok (.aload_n 0, 1) := by decide +kernel
theorem dX0_start_47 : decode cX0_start 47 = .ok (.invokevirtual 51, 3) := by decide +kernel
theorem dX0_start_50 : decode cX0_start 50 = .ok (.return_, 1) := by decide +kernel
theorem dX0_hasGroup_0 : decode cX0_hasGroup 0 = .ok (.iload_n 1, 1) := by decide +kernel
theorem dX0_hasGroup_1 : decode cX0_hasGroup 1 = .ok (.ifCond .lt 21, 3) := by decide +kernel
theorem dX0_hasGroup_4 : decode cX0_hasGroup 4 = .ok (.iload_n 1, 1) := by decide +kernel
theorem dX0_hasGroup_5 : decode cX0_hasGroup 5 = .ok (.aload_n 0, 1) := by decide +kernel
theorem dX0_hasGroup_6 : decode cX0_hasGroup 6 = .ok (.getfield 48, 3) := by decide +kernel
theorem dX0_hasGroup_9 : decode cX0_hasGroup 9 = .ok (.if_icmp .ge 13, 3) := by decide +kernel
theorem dX0_hasGroup_12 : decode cX0_hasGroup 12 = .ok (.iload_n 1, 1) := by decide +kernel
theorem dX0_hasGroup_13 : decode cX0_hasGroup 13 = .ok (.bipush 9, 2) := by decide +kernel
theorem dX0_hasGroup_15 : decode cX0_hasGroup 15 = .ok (.if_icmp .ge 7, 3) := by decide +kernel
theorem dX0_hasGroup_18 : decode cX0_hasGroup 18 = .ok (.iconst 1, 1) := by decide +kernel
theorem dX0_hasGroup_19 : decode cX0_hasGroup 19 = .ok (.goto 4, 3) := by decide +kernel
theorem dX0_hasGroup_22 : decode cX0_hasGroup 22 = .ok (.iconst 0, 1) := by decide +kernel
theorem dX0_hasGroup_23 : decode cX0_hasGroup 23 = .ok (.ireturn, 1) := by decide +kernel
theorem dX0_addGroup_0 : decode cX0_addGroup 0 = .ok (.aload_n 0, 1) := by decide +kernel
theorem dX0_addGroup_1 : decode cX0_addGroup 1 = .ok (.getfield 48, 3) := by decide +kernel
theorem dX0_addGroup_4 : decode cX0_addGroup 4 = .ok (.bipush 9, 2) := by decide +kernel
theorem dX0_addGroup_6 : decode cX0_addGroup 6 = .ok (.if_icmp .ge 25, 3) := by decide +kernel
theorem dX0_addGroup_9 : decode cX0_addGroup 9 = .ok (.aload_n 0, 1) := by decide +kernel
theorem dX0_addGroup_10 : decode cX0_addGroup 10 = .ok (.getfield 17, 3) := by decide +kernel
theorem dX0_addGroup_13 : decode cX0_addGroup 13 = .ok (.aload_n 0, 1) := by decide +kernel
theorem dX0_addGroup_14 : decode cX0_addGroup 14 = .ok (.getfield 48, 3) := by decide +kernel
theorem dX0_addGroup_17 : decode cX0_addGroup 17 = .ok (.aaload, 1) := by decide +kernel
theorem dX0_addGroup_18 : decode cX0_addGroup 18 = .ok (.invokevirtual 54, 3) := by decide +kernel
theorem dX0_addGroup_21 : decode cX0_addGroup 21 = .ok (.aload_n 0, 1) := by decide +kernel
theorem dX0_addGroup_22 : decode cX0_addGroup 22 = .ok (.dup, 1) := by decide +kernel
theorem dX0_addGroup_23 : decode cX0_addGroup 23 = .ok (.getfield 48, 3) := by decide +kernel
theorem dX0_addGroup_26 : decode cX0_addGroup 26 = .ok (.iconst 1, 1) := by decide +kernel
theorem dX0_addGroup_27 : decode cX0_addGroup 27 = .ok (.iadd, 1) := by decide +kernel
theorem dX0_addGroup_28 : decode cX0_addGroup 28 = .ok (.putfield 48, 3) := by decide +kernel
theorem dX0_addGroup_31 : decode cX0_addGroup 31 = .ok (.return_, 1) := by decide +kernel
theorem dX0_keepTokens_0 : decode cX0_keepTokens 0 = .ok (.aload_n 0, 1) := by decide +kernel
theorem dX0_keepTokens_1 : decode cX0_keepTokens 1 = .ok (.iconst 0, 1) := by decide +kernel
theorem dX0_keepTokens_2 : decode cX0_keepTokens 2 = .ok (.putfield 45, 3) := by decide +kernel
theorem dX0_keepTokens_5 : decode cX0_keepTokens 5 = .ok (.iconst 0, 1) := by decide +kernel
theorem dX0_keepTokens_6 : decode cX0_keepTokens 6 = .ok (.istore_n 3, 1) := by decide +kernel
theorem dX0_keepTokens_7 : decode cX0_keepTokens 7 = .ok (.iconst 0, 1) := by decide +kernel
theorem dX0_keepTokens_8 : decode cX0_keepTokens 8 = .ok (.istore 4, 2) := by decide +kernel
theorem dX0_keepTokens_10 : decode cX0_keepTokens 10 = .ok (.iload 4, 2) := by decide +kernel
theorem dX0_keepTokens_12 : decode cX0_keepTokens 12 = .ok (.iload_n 2, 1) := by decide +kernel
theorem dX0_keepTokens_13 : decode cX0_keepTokens 13 = .ok (.if_icmp .ge 108, 3) := by decide +kernel
theorem dX0_keepTokens_16 : decode cX0_keepTokens 16 = .ok (.iload 4, 2) := by decide +kernel
theorem dX0_keepTokens_18 : decode cX0_keepTokens 18 = .ok (.aload_n 1, 1) := by decide +kernel
theorem dX0_keepTokens_19 : decode cX0_keepTokens 19 = .ok (.arraylength, 1) := by decide +kernel
theorem dX0_keepTokens_20 : decode cX0_keepTokens 20 = .ok (.if_icmp .ge 101, 3) := by decide +kernel
theorem dX0_keepTokens_23 : decode cX0_keepTokens 23 = .ok (.iload 4, 2) := by decide +kernel
theorem dX0_keepTokens_25 : decode cX0_keepTokens 25 = .ok (.sipush 700, 3) := by decide +kernel
theorem dX0_keepTokens_28 : decode cX0_keepTokens 28 = .ok (.if_icmp .ge 93, 3) := by decide +kernel
theorem dX0_keepTokens_31 : decode cX0_keepTokens 31 = .ok (.aload_n 1, 1) := by decide +kernel
theorem dX0_keepTokens_32 : decode cX0_keepTokens 32 = .ok (.iload 4, 2) := by decide +kernel
theorem dX0_keepTokens_34 : decode cX0_keepTokens 34 = .ok (.caload, 1) := by decide +kernel
theorem dX0_keepTokens_35 : decode cX0_keepTokens 35 = .ok (.bipush 32, 2) := by decide +kernel
theorem dX0_keepTokens_37 : decode cX0_keepTokens 37 = .ok (.if_icmp .ne 7, 3) := by decide +kernel
theorem dX0_keepTokens_40 : decode cX0_keepTokens 40 = .ok (.iconst 1, 1) := by decide +kernel
theorem dX0_keepTokens_41 : decode cX0_keepTokens 41 = .ok (.goto 4, 3) := by decide +kernel
theorem dX0_keepTokens_44 : decode cX0_keepTokens 44 = .ok (.iconst 0, 1) := by decide +kernel
theorem dX0_keepTokens_45 : decode cX0_keepTokens 45 = .ok (.istore 5, 2) := by decide +kernel
theorem dX0_keepTokens_47 : decode cX0_keepTokens 47 = .ok (.iload 5, 2) := by decide +kernel
theorem dX0_keepTokens_49 : decode cX0_keepTokens 49 = .ok (.ifCond .ne 35, 3) := by decide +kernel
theorem dX0_keepTokens_52 : decode cX0_keepTokens 52 = .ok (.iload_n 3, 1) := by decide +kernel
theorem dX0_keepTokens_53 : decode cX0_keepTokens 53 = .ok (.ifCond .eq 31, 3) := by decide +kernel
theorem dX0_keepTokens_56 : decode cX0_keepTokens 56 = .ok (.aload_n 0, 1) := by decide +kernel
theorem dX0_keepTokens_57 : decode cX0_keepTokens 57 = .ok (.getfield 45, 3) := by decide +kernel
theorem dX0_keepTokens_60 : decode cX0_keepTokens 60 = .ok (.ifCond .le 24, 3) := by decide +kernel
theorem dX0_keepTokens_63 : decode cX0_keepTokens 63 = .ok (.aload_n 0, 1) := by decide +kernel
theorem dX0_keepTokens_64 : decode cX0_keepTokens 64 = .ok (.getfield 21, 3) := by decide +kernel
theorem dX0_keepTokens_67 : decode cX0_keepTokens 67 = .ok (.aload_n 0, 1) := by decide +kernel
theorem dX0_keepTokens_68 : decode cX0_keepTokens 68 = .ok (.getfield 45, 3) := by decide +kernel
theorem dX0_keepTokens_71 : decode cX0_keepTokens 71 = .ok (.bipush 32, 2) := by decide +kernel
theorem dX0_keepTokens_73 : decode cX0_keepTokens 73 = .ok (.castore, 1) := by decide +kernel
theorem dX0_keepTokens_74 : decode cX0_keepTokens 74 = .ok (.aload_n 0, 1) := by decide +kernel
theorem dX0_keepTokens_75 : decode cX0_keepTokens 75 = .ok (.dup, 1) := by decide +kernel
theorem dX0_keepTokens_76 : decode cX0_keepTokens 76 = .ok (.getfield 45, 3) := by decide +kernel
theorem dX0_keepTokens_79 : decode cX0_keepTokens 79 = .ok (.iconst 1, 1) := by decide +kernel
theorem dX0_keepTokens_80 : decode cX0_keepTokens 80 = .ok (.iadd, 1) := by decide +kernel
theorem dX0_keepTokens_81 : decode cX0_keepTokens 81 = .ok (.putfield 45, 3) := by decide +kernel
theorem dX0_keepTokens_84 : decode cX0_keepTokens 84 = .ok (.iload 5, 2) := by decide +kernel
theorem dX0_keepTokens_86 : decode cX0_keepTokens 86 = .ok (.ifCond .ne 26, 3) := by decide +kernel
theorem dX0_keepTokens_89 : decode cX0_keepTokens 89 = .ok (.aload_n 0, 1) := by decide +kernel
theorem dX0_keepTokens_90 : decode cX0_keepTokens 90 = .ok (.getfield 21, 3) := by decide +kernel
theorem dX0_keepTokens_93 : decode cX0_keepTokens 93 = .ok (.aload_n 0, 1) := by decide +kernel
theorem dX0_keepTokens_94 : decode cX0_keepTokens 94 = .ok (.getfield 45, 3) := by decide +kernel
theorem dX0_keepTokens_97 : decode cX0_keepTokens 97 = .ok (.aload_n 1, 1) := by decide +kernel
theorem dX0_keepTokens_98 : decode cX0_keepTokens 98 = .ok (.iload 4, 2) := by decide +kernel
theorem dX0_keepTokens_100 : decode cX0_keepTokens 100 = .ok (.caload, 1) := by decide +kernel
theorem dX0_keepTokens_101 : decode cX0_keepTokens 101 = .ok (.castore, 1) := by decide +kernel
theorem dX0_keepTokens_102 : decode cX0_keepTokens 102 = .ok (.aload_n 0, 1) := by decide +kernel
theorem dX0_keepTokens_103 : decode cX0_keepTokens 103 = .ok (.dup, 1) := by decide +kernel
theorem dX0_keepTokens_104 : decode cX0_keepTokens 104 = .ok (.getfield 45, 3) := by decide +kernel
theorem dX0_keepTokens_107 : decode cX0_keepTokens 107 = .ok (.iconst 1, 1) := by decide +kernel
theorem dX0_keepTokens_108 : decode cX0_keepTokens 108 = .ok (.iadd, 1) := by decide +kernel
theorem dX0_keepTokens_109 : decode cX0_keepTokens 109 = .ok (.putfield 45, 3) := by decide +kernel
theorem dX0_keepTokens_112 : decode cX0_keepTokens 112 = .ok (.iload 5, 2) := by decide +kernel
theorem dX0_keepTokens_114 : decode cX0_keepTokens 114 = .ok (.istore_n 3, 1) := by decide +kernel
theorem dX0_keepTokens_115 : decode cX0_keepTokens 115 = .ok (.iinc 4 1, 3) := by decide +kernel
theorem dX0_keepTokens_118 : decode cX0_keepTokens 118 = .ok (.goto (-108), 3) := by decide +kernel
theorem dX0_keepTokens_121 : decode cX0_keepTokens 121 = .ok (.return_, 1) := by decide +kernel
theorem dX0_covers_0 : decode cX0_covers 0 = .ok (.aload_n 0, 1) := by decide +kernel
theorem dX0_covers_1 : decode cX0_covers 1 = .ok (.getfield 26, 3) := by decide +kernel
theorem dX0_covers_4 : decode cX0_covers 4 = .ok (.iconst 2, 1) := by decide +kernel
theorem dX0_covers_5 : decode cX0_covers 5 = .ok (.if_icmp .ne 33, 3) := by decide +kernel
theorem dX0_covers_8 : decode cX0_covers 8 = .ok (.iload_n 1, 1) := by decide +kernel
theorem dX0_covers_9 : decode cX0_covers 9 = .ok (.aload_n 0, 1) := by decide +kernel
theorem dX0_covers_10 : decode cX0_covers 10 = .ok (.getfield 17, 3) := by decide +kernel
theorem dX0_covers_13 : decode cX0_covers 13 = .ok (.iconst 0, 1) := by decide +kernel
theorem dX0_covers_14 : decode cX0_covers 14 = .ok (.aaload, 1) := by decide +kernel
theorem dX0_covers_15 : decode cX0_covers 15 = .ok (.getfield 57, 3) := by decide +kernel
theorem dX0_covers_18 : decode cX0_covers 18 = .ok (.if_icmp .lt 20, 3) := by decide +kernel
theorem dX0_covers_21 : decode cX0_covers 21 = .ok (.iload_n 1, 1) := by decide +kernel
theorem dX0_covers_22 : decode cX0_covers 22 = .ok (.aload_n 0, 1) := by decide +kernel
theorem dX0_covers_23 : decode cX0_covers 23 = .ok (.getfield 17, 3) := by decide +kernel
theorem dX0_covers_26 : decode cX0_covers 26 = .ok (.iconst 0, 1) := by decide +kernel
theorem dX0_covers_27 : decode cX0_covers 27 = .ok (.aaload, 1) := by decide +kernel
theorem dX0_covers_28 : decode cX0_covers 28 = .ok (.getfield 60, 3) := by decide +kernel
theorem dX0_covers_31 : decode cX0_covers 31 = .ok (.if_icmp .ge 7, 3) := by decide +kernel
theorem dX0_covers_34 : decode cX0_covers 34 = .ok (.iconst 1, 1) := by decide +kernel
theorem dX0_covers_35 : decode cX0_covers 35 = .ok (.goto 4, 3) := by decide +kernel
theorem dX0_covers_38 : decode cX0_covers 38 = .ok (.iconst 0, 1) := by decide +kernel
theorem dX0_covers_39 : decode cX0_covers 39 = .ok (.ireturn, 1) := by decide +kernel
theorem dX0_teller_0 : decode cX0_teller 0 = .ok (.iconst 0, 1) := by decide +kernel
theorem dX0_teller_1 : decode cX0_teller 1 = .ok (.istore_n 3, 1) := by decide +kernel
theorem dX0_teller_2 : decode cX0_teller 2 = .ok (.iconst 1, 1) := by decide +kernel
theorem dX0_teller_3 : decode cX0_teller 3 = .ok (.istore 4, 2) := by decide +kernel
theorem dX0_teller_5 : decode cX0_teller 5 = .ok (.iload 4, 2) := by decide +kernel
theorem dX0_teller_7 : decode cX0_teller 7 = .ok (.aload_n 0, 1) := by decide +kernel
theorem dX0_teller_8 : decode cX0_teller 8 = .ok (.getfield 48, 3) := by decide +kernel
theorem dX0_teller_11 : decode cX0_teller 11 = .ok (.if_icmp .ge 47, 3) := by decide +kernel
theorem dX0_teller_14 : decode cX0_teller 14 = .ok (.iload 4, 2) := by decide +kernel
theorem dX0_teller_16 : decode cX0_teller 16 = .ok (.bipush 9, 2) := by decide +kernel
theorem dX0_teller_18 : decode cX0_teller 18 = .ok (.if_icmp .ge 40, 3) := by decide +kernel
theorem dX0_teller_21 : decode cX0_teller 21 = .ok (.aload_n 0, 1) := by decide +kernel
theorem dX0_teller_22 : decode cX0_teller 22 = .ok (.getfield 17, 3) := by decide +kernel
theorem dX0_teller_25 : decode cX0_teller 25 = .ok (.iload 4, 2) := by decide +kernel
theorem dX0_teller_27 : decode cX0_teller 27 = .ok (.aaload, 1) := by decide +kernel
theorem dX0_teller_28 : decode cX0_teller 28 = .ok (.iload_n 1, 1) := by decide +kernel
theorem dX0_teller_29 : decode cX0_teller 29 = .ok (.invokevirtual 63, 3) := by decide +kernel
theorem dX0_teller_32 : decode cX0_teller 32 = .ok (.ifCond .eq 20, 3) := by decide +kernel
theorem dX0_teller_35 : decode cX0_teller 35 = .ok (.aload_n 0, 1) := by decide +kernel
theorem dX0_teller_36 : decode cX0_teller 36 = .ok (.getfield 17, 3) := by decide +kernel
theorem dX0_teller_39 : decode cX0_teller 39 = .ok (.iload 4, 2) := by decide +kernel
theorem dX0_teller_41 : decode cX0_teller 41 = .ok (.aaload, 1) := by decide +kernel
theorem dX0_teller_42 : decode cX0_teller 42 = .ok (.iload_n 2, 1) := by decide +kernel
theorem dX0_teller_43 : decode cX0_teller 43 = .ok (.invokevirtual 67, 3) := by decide +kernel
theorem dX0_teller_46 : decode cX0_teller 46 = .ok (.ifCond .eq 6, 3) := by decide +kernel
theorem dX0_teller_49 : decode cX0_teller 49 = .ok (.iload 4, 2) := by decide +kernel
theorem dX0_teller_51 : decode cX0_teller 51 = .ok (.istore_n 3, 1) := by decide +kernel
theorem dX0_teller_52 : decode cX0_teller 52 = .ok (.iinc 4 1, 3) := by decide +kernel
theorem dX0_teller_55 : decode cX0_teller 55 = .ok (.goto (-50), 3) := by decide +kernel
theorem dX0_teller_58 : decode cX0_teller 58 = .ok (.iload_n 3, 1) := by decide +kernel
theorem dX0_teller_59 : decode cX0_teller 59 = .ok (.ireturn, 1) := by decide +kernel
theorem dX0_countActive_0 : decode cX0_countActive 0 = .ok (.iconst 0, 1) := by decide +kernel
theorem dX0_countActive_1 : decode cX0_countActive 1 = .ok (.istore_n 2, 1) := by decide +kernel
theorem dX0_countActive_2 : decode cX0_countActive 2 = .ok (.iconst 1, 1) := by decide +kernel
theorem dX0_countActive_3 : decode cX0_countActive 3 = .ok (.istore_n 3, 1) := by decide +kernel
theorem dX0_countActive_4 : decode cX0_countActive 4 = .ok (.iload_n 3, 1) := by decide +kernel
theorem dX0_countActive_5 : decode cX0_countActive 5 = .ok (.aload_n 0, 1) := by decide +kernel
theorem dX0_countActive_6 : decode cX0_countActive 6 = .ok (.getfield 48, 3) := by decide +kernel
theorem dX0_countActive_9 : decode cX0_countActive 9 = .ok (.if_icmp .ge 31, 3) := by decide +kernel
theorem dX0_countActive_12 : decode cX0_countActive 12 = .ok (.iload_n 3, 1) := by decide +kernel
theorem dX0_countActive_13 : decode cX0_countActive 13 = .ok (.bipush 9, 2) := by decide +kernel
theorem dX0_countActive_15 : decode cX0_countActive 15 = .ok (.if_icmp .ge 25, 3) := by decide +kernel
theorem dX0_countActive_18 : decode cX0_countActive 18 = .ok (.aload_n 0, 1) := by decide +kernel
theorem dX0_countActive_19 : decode cX0_countActive 19 = .ok (.getfield 17, 3) := by decide +kernel
theorem dX0_countActive_22 : decode cX0_countActive 22 = .ok (.iload_n 3, 1) := by decide +kernel
theorem dX0_countActive_23 : decode cX0_countActive 23 = .ok (.aaload, 1) := by decide +kernel
theorem dX0_countActive_24 : decode cX0_countActive 24 = .ok (.iload_n 1, 1) := by decide +kernel
theorem dX0_countActive_25 : decode cX0_countActive 25 = .ok (.invokevirtual 70, 3) := by decide +kernel
theorem dX0_countActive_28 : decode cX0_countActive 28 = .ok (.ifCond .eq 6, 3) := by decide +kernel
theorem dX0_countActive_31 : decode cX0_countActive 31 = .ok (.iinc 2 1, 3) := by decide +kernel
theorem dX0_countActive_34 : decode cX0_countActive 34 = .ok (.iinc 3 1, 3) := by decide +kernel
theorem dX0_countActive_37 : decode cX0_countActive 37 = .ok (.goto (-33), 3) := by decide +kernel
theorem dX0_countActive_40 : decode cX0_countActive 40 = .ok (.iload_n 2, 1) := by decide +kernel
theorem dX0_countActive_41 : decode cX0_countActive 41 = .ok (.ireturn, 1) := by decide +kernel
theorem dX0_findActive_0 : decode cX0_findActive 0 = .ok (.iconst 0, 1) := by decide +kernel
theorem dX0_findActive_1 : decode cX0_findActive 1 = .ok (.istore_n 3, 1) := by decide +kernel
theorem dX0_findActive_2 : decode cX0_findActive 2 = .ok (.iconst 1, 1) := by decide +kernel
theorem dX0_findActive_3 : decode cX0_findActive 3 = .ok (.istore 4, 2) := by decide +kernel
theorem dX0_findActive_5 : decode cX0_findActive 5 = .ok (.iload 4, 2) := by decide +kernel
theorem dX0_findActive_7 : decode cX0_findActive 7 = .ok (.aload_n 0, 1) := by decide +kernel
theorem dX0_findActive_8 : decode cX0_findActive 8 = .ok (.getfield 48, 3) := by decide +kernel
theorem dX0_findActive_11 : decode cX0_findActive 11 = .ok (.if_icmp .ge 41, 3) := by decide +kernel
theorem dX0_findActive_14 : decode cX0_findActive 14 = .ok (.iload 4, 2) := by decide +kernel
theorem dX0_findActive_16 : decode cX0_findActive 16 = .ok (.bipush 9, 2) := by decide +kernel
theorem dX0_findActive_18 : decode cX0_findActive 18 = .ok (.if_icmp .ge 34, 3) := by decide +kernel
theorem dX0_findActive_21 : decode cX0_findActive 21 = .ok (.aload_n 0, 1) := by decide +kernel
theorem dX0_findActive_22 : decode cX0_findActive 22 = .ok (.getfield 17, 3) := by decide +kernel
theorem dX0_findActive_25 : decode cX0_findActive 25 = .ok (.iload 4, 2) := by decide +kernel
theorem dX0_findActive_27 : decode cX0_findActive 27 = .ok (.aaload, 1) := by decide +kernel
theorem dX0_findActive_28 : decode cX0_findActive 28 = .ok (.iload_n 1, 1) := by decide +kernel
theorem dX0_findActive_29 : decode cX0_findActive 29 = .ok (.invokevirtual 70, 3) := by decide +kernel
theorem dX0_findActive_32 : decode cX0_findActive 32 = .ok (.ifCond .eq 14, 3) := by decide +kernel
theorem dX0_findActive_35 : decode cX0_findActive 35 = .ok (.iload_n 3, 1) := by decide +kernel
theorem dX0_findActive_36 : decode cX0_findActive 36 = .ok (.iload_n 2, 1) := by decide +kernel
theorem dX0_findActive_37 : decode cX0_findActive 37 = .ok (.if_icmp .ne 6, 3) := by decide +kernel
theorem dX0_findActive_40 : decode cX0_findActive 40 = .ok (.iload 4, 2) := by decide +kernel
theorem dX0_findActive_42 : decode cX0_findActive 42 = .ok (.ireturn, 1) := by decide +kernel
theorem dX0_findActive_43 : decode cX0_findActive 43 = .ok (.iinc 3 1, 3) := by decide +kernel
theorem dX0_findActive_46 : decode cX0_findActive 46 = .ok (.iinc 4 1, 3) := by decide +kernel
theorem dX0_findActive_49 : decode cX0_findActive 49 = .ok (.goto (-44), 3) := by decide +kernel
theorem dX0_findActive_52 : decode cX0_findActive 52 = .ok (.iconst (-1), 1) := by decide +kernel
theorem dX0_findActive_53 : decode cX0_findActive 53 = .ok (.ireturn, 1) := by decide +kernel
theorem dX0_leastVisibility_0 : decode cX0_leastVisibility 0 = .ok (.aload_n 0, 1) := by decide +kernel
theorem dX0_leastVisibility_1 : decode cX0_leastVisibility 1 = .ok (.getfield 17, 3) := by decide +kernel
theorem dX0_leastVisibility_4 : decode cX0_leastVisibility 4 = .ok (.aload_n 0, 1) := by decide +kernel
theorem dX0_leastVisibility_5 : decode cX0_leastVisibility 5 = .ok (.iload_n 1, 1) := by decide +kernel
theorem dX0_leastVisibility_6 : decode cX0_leastVisibility 6 = .ok (.iconst 1, 1) := by decide +kernel
theorem dX0_leastVisibility_7 : decode cX0_leastVisibility 7 = .ok (.invokevirtual 73, 3) := by decide +kernel
theorem dX0_leastVisibility_10 : decode cX0_leastVisibility 10 = .ok (.aaload, 1) := by decide +kernel
theorem dX0_leastVisibility_11 : decode cX0_leastVisibility 11 = .ok (.getfield 77, 3) := by decide +kernel
theorem dX0_leastVisibility_14 : decode cX0_leastVisibility 14 = .ok (.istore_n 2, 1) := by decide +kernel
theorem dX0_leastVisibility_15 : decode cX0_leastVisibility 15 = .ok (.iconst 1, 1) := by decide +kernel
theorem dX0_leastVisibility_16 : decode cX0_leastVisibility 16 = .ok (.istore_n 3, 1) := by decide +kernel
theorem dX0_leastVisibility_17 : decode cX0_leastVisibility 17 = .ok (.iload_n 3, 1) := by decide +kernel
theorem dX0_leastVisibility_18 : decode cX0_leastVisibility 18 = .ok (.aload_n 0, 1) := by decide +kernel
theorem dX0_leastVisibility_19 : decode cX0_leastVisibility 19 = .ok (.getfield 48, 3) := by decide +kernel
theorem dX0_leastVisibility_22 : decode cX0_leastVisibility 22 = .ok (.if_icmp .ge 55, 3) := by decide +kernel
theorem dX0_leastVisibility_25 : decode cX0_leastVisibility 25 = .ok (.iload_n 3, 1) := by decide +kernel
theorem dX0_leastVisibility_26 : decode cX0_leastVisibility 26 = .ok (.bipush 9, 2) := by decide +kernel
theorem dX0_leastVisibility_28 : decode cX0_leastVisibility 28 = .ok (.if_icmp .ge 49, 3) := by decide +kernel
theorem dX0_leastVisibility_31 : decode cX0_leastVisibility 31 = .ok (.aload_n 0, 1) := by decide +kernel
theorem dX0_leastVisibility_32 : decode cX0_leastVisibility 32 = .ok (.getfield 17, 3) := by decide +kernel
theorem dX0_leastVisibility_35 : decode cX0_leastVisibility 35 = .ok (.iload_n 3, 1) := by decide +kernel
theorem dX0_leastVisibility_36 : decode cX0_leastVisibility 36 = .ok (.aaload, 1) := by decide +kernel
theorem dX0_leastVisibility_37 : decode cX0_leastVisibility 37 = .ok (.iload_n 1, 1) := by decide +kernel
theorem dX0_leastVisibility_38 : decode cX0_leastVisibility 38 = .ok (.invokevirtual 70, 3) := by decide +kernel
theorem dX0_leastVisibility_41 : decode cX0_leastVisibility 41 = .ok (.ifCond .eq 30, 3) := by decide +kernel
theorem dX0_leastVisibility_44 : decode cX0_leastVisibility 44 = .ok (.aload_n 0, 1) := by decide +kernel
theorem dX0_leastVisibility_45 : decode cX0_leastVisibility 45 = .ok (.getfield 17, 3) := by decide +kernel
theorem dX0_leastVisibility_48 : decode cX0_leastVisibility 48 = .ok (.iload_n 3, 1) := by decide +kernel
theorem dX0_leastVisibility_49 : decode cX0_leastVisibility 49 = .ok (.aaload, 1) := by decide +kernel
theorem dX0_leastVisibility_50 : decode cX0_leastVisibility 50 = .ok (.iconst 1, 1) := by decide +kernel
theorem dX0_leastVisibility_51 : decode cX0_leastVisibility 51 = .ok (.invokevirtual 67, 3) := by decide +kernel
theorem dX0_leastVisibility_54 : decode cX0_leastVisibility 54 = .ok (.ifCond .eq 17, 3) := by decide +kernel
theorem dX0_leastVisibility_57 : decode cX0_leastVisibility 57 = .ok (.iload_n 2, 1) := by decide +kernel
theorem dX0_leastVisibility_58 : decode cX0_leastVisibility 58 = .ok (.aload_n 0, 1) := by decide +kernel
theorem dX0_leastVisibility_59 : decode cX0_leastVisibility 59 = .ok (.getfield 17, 3) := by decide +kernel
theorem dX0_leastVisibility_62 : decode cX0_leastVisibility 62 = .ok (.iload_n 3, 1) := by decide +kernel
theorem dX0_leastVisibility_63 : decode cX0_leastVisibility 63 = .ok (.aaload, 1) := by decide +kernel
theorem dX0_leastVisibility_64 : decode cX0_leastVisibility 64 = .ok (.getfield 77, 3) := by decide +kernel
theorem dX0_leastVisibility_67 : decode cX0_leastVisibility 67 = .ok (.invokestatic 80, 3) := by decide +kernel
theorem dX0_leastVisibility_70 : decode cX0_leastVisibility 70 = .ok (.istore_n 2, 1) := by decide +kernel
theorem dX0_leastVisibility_71 : decode cX0_leastVisibility 71 = .ok (.iinc 3 1, 3) := by decide +kernel
theorem dX0_leastVisibility_74 : decode cX0_leastVisibility 74 = .ok (.goto (-57), 3) := by decide +kernel
theorem dX0_leastVisibility_77 : decode cX0_leastVisibility 77 = .ok (.iload_n 2, 1) := by decide +kernel
theorem dX0_leastVisibility_78 : decode cX0_leastVisibility 78 = .ok (.ireturn, 1) := by decide +kernel
theorem dX0_lowestCeiling_0 : decode cX0_lowestCeiling 0 = .ok (.aload_n 0, 1) := by decide +kernel
theorem dX0_lowestCeiling_1 : decode cX0_lowestCeiling 1 = .ok (.getfield 17, 3) := by decide +kernel
theorem dX0_lowestCeiling_4 : decode cX0_lowestCeiling 4 = .ok (.aload_n 0, 1) := by decide +kernel
theorem dX0_lowestCeiling_5 : decode cX0_lowestCeiling 5 = .ok (.iload_n 1, 1) := by decide +kernel
theorem dX0_lowestCeiling_6 : decode cX0_lowestCeiling 6 = .ok (.iconst 3, 1) := by decide +kernel
theorem dX0_lowestCeiling_7 : decode cX0_lowestCeiling 7 = .ok (.invokevirtual 73, 3) := by decide +kernel
theorem dX0_lowestCeiling_10 : decode cX0_lowestCeiling 10 = .ok (.aaload, 1) := by decide +kernel
theorem dX0_lowestCeiling_11 : decode cX0_lowestCeiling 11 = .ok (.bipush (-2), 2) := by decide +kernel
theorem dX0_lowestCeiling_13 : decode cX0_lowestCeiling 13 = .ok (.invokevirtual 85, 3) := by decide +kernel
theorem dX0_lowestCeiling_16 : decode cX0_lowestCeiling 16 = .ok (.istore_n 3, 1) := by decide +kernel
theorem dX0_lowestCeiling_17 : decode cX0_lowestCeiling 17 = .ok (.iconst 1, 1) := by decide +kernel
theorem dX0_lowestCeiling_18 : decode cX0_lowestCeiling 18 = .ok (.istore 4, 2) := by decide +kernel
theorem dX0_lowestCeiling_20 : decode cX0_lowestCeiling 20 = .ok (.iload 4, 2) := by decide +kernel
theorem dX0_lowestCeiling_22 : decode cX0_lowestCeiling 22 = .ok (.aload_n 0, 1) := by decide +kernel
theorem dX0_lowestCeiling_23 : decode cX0_lowestCeiling 23 = .ok (.getfield 48, 3) := by decide +kernel
theorem dX0_lowestCeiling_26 : decode cX0_lowestCeiling 26 = .ok (.if_icmp .ge 46, 3) := by decide +kernel
theorem dX0_lowestCeiling_29 : decode cX0_lowestCeiling 29 = .ok (.iload 4, 2) := by decide +kernel
theorem dX0_lowestCeiling_31 : decode cX0_lowestCeiling 31 = .ok (.bipush 9, 2) := by decide +kernel
theorem dX0_lowestCeiling_33 : decode cX0_lowestCeiling 33 = .ok (.if_icmp .ge 39, 3) := by decide +kernel
theorem dX0_lowestCeiling_36 : decode cX0_lowestCeiling 36 = .ok (.iload_n 2, 1) := by decide +kernel
theorem dX0_lowestCeiling_37 : decode cX0_lowestCeiling 37 = .ok (.ifCond .eq 29, 3) := by decide +kernel
theorem dX0_lowestCeiling_40 : decode cX0_lowestCeiling 40 = .ok (.aload_n 0, 1) := by decide +kernel
theorem dX0_lowestCeiling_41 : decode cX0_lowestCeiling 41 = .ok (.getfield 17, 3) := by decide +kernel
theorem dX0_lowestCeiling_44 : decode cX0_lowestCeiling 44 = .ok (.iload 4, 2) := by decide +kernel
theorem dX0_lowestCeiling_46 : decode cX0_lowestCeiling 46 = .ok (.aaload, 1) := by decide +kernel
theorem dX0_lowestCeiling_47 : decode cX0_lowestCeiling 47 = .ok (.iload_n 1, 1) := by decide +kernel
theorem dX0_lowestCeiling_48 : decode cX0_lowestCeiling 48 = .ok (.invokevirtual 70, 3) := by decide +kernel
theorem dX0_lowestCeiling_51 : decode cX0_lowestCeiling 51 = .ok (.ifCond .eq 15, 3) := by decide +kernel
theorem dX0_lowestCeiling_54 : decode cX0_lowestCeiling 54 = .ok (.aload_n 0, 1) := by decide +kernel
theorem dX0_lowestCeiling_55 : decode cX0_lowestCeiling 55 = .ok (.getfield 17, 3) := by decide +kernel
theorem dX0_lowestCeiling_58 : decode cX0_lowestCeiling 58 = .ok (.iload 4, 2) := by decide +kernel
theorem dX0_lowestCeiling_60 : decode cX0_lowestCeiling 60 = .ok (.aaload, 1) := by decide +kernel
theorem dX0_lowestCeiling_61 : decode cX0_lowestCeiling 61 = .ok (.iload_n 3, 1) := by decide +kernel
theorem dX0_lowestCeiling_62 : decode cX0_lowestCeiling 62 = .ok (.invokevirtual 85, 3) := by decide +kernel
theorem dX0_lowestCeiling_65 : decode cX0_lowestCeiling 65 = .ok (.istore_n 3, 1) := by decide +kernel
theorem dX0_lowestCeiling_66 : decode cX0_lowestCeiling 66 = .ok (.iinc 4 1, 3) := by decide +kernel
theorem dX0_lowestCeiling_69 : decode cX0_lowestCeiling 69 = .ok (.goto (-49), 3) := by decide +kernel
theorem dX0_lowestCeiling_72 : decode cX0_lowestCeiling 72 = .ok (.iload_n 3, 1) := by decide +kernel
theorem dX0_lowestCeiling_73 : decode cX0_lowestCeiling 73 = .ok (.ireturn, 1) := by decide +kernel
theorem dX0_nextTurn_0 : decode cX0_nextTurn 0 = .ok (.iconst (-1), 1) := by decide +kernel
theorem dX0_nextTurn_1 : decode cX0_nextTurn 1 = .ok (.istore_n 2, 1) := by decide +kernel
theorem dX0_nextTurn_2 : decode cX0_nextTurn 2 = .ok (.iconst 1, 1) := by decide +kernel
theorem dX0_nextTurn_3 : decode cX0_nextTurn 3 = .ok (.istore_n 3, 1) := by decide +kernel
theorem dX0_nextTurn_4 : decode cX0_nextTurn 4 = .ok (.iload_n 3, 1) := by decide +kernel
theorem dX0_nextTurn_5 : decode cX0_nextTurn 5 = .ok (.aload_n 0, 1) := by decide +kernel
theorem dX0_nextTurn_6 : decode cX0_nextTurn 6 = .ok (.getfield 48, 3) := by decide +kernel
theorem dX0_nextTurn_9 : decode cX0_nextTurn 9 = .ok (.if_icmp .ge 47, 3) := by decide +kernel
theorem dX0_nextTurn_12 : decode cX0_nextTurn 12 = .ok (.iload_n 3, 1) := by decide +kernel
theorem dX0_nextTurn_13 : decode cX0_nextTurn 13 = .ok (.bipush 9, 2) := by decide +kernel
theorem dX0_nextTurn_15 : decode cX0_nextTurn 15 = .ok (.if_icmp .ge 41, 3) := by decide +kernel
theorem dX0_nextTurn_18 : decode cX0_nextTurn 18 = .ok (.aload_n 0, 1) := by decide +kernel
theorem dX0_nextTurn_19 : decode cX0_nextTurn 19 = .ok (.iload_n 1, 1) := by decide +kernel
theorem dX0_nextTurn_20 : decode cX0_nextTurn 20 = .ok (.iload_n 2, 1) := by decide +kernel
theorem dX0_nextTurn_21 : decode cX0_nextTurn 21 = .ok (.aload_n 0, 1) := by decide +kernel
theorem dX0_nextTurn_22 : decode cX0_nextTurn 22 = .ok (.getfield 17, 3) := by decide +kernel
theorem dX0_nextTurn_25 : decode cX0_nextTurn 25 = .ok (.iload_n 3, 1) := by decide +kernel
theorem dX0_nextTurn_26 : decode cX0_nextTurn 26 = .ok (.aaload, 1) := by decide +kernel
theorem dX0_nextTurn_27 : decode cX0_nextTurn 27 = .ok (.getfield 57, 3) := by decide +kernel
theorem dX0_nextTurn_30 : decode cX0_nextTurn 30 = .ok (.invokevirtual 89, 3) := by decide +kernel
theorem dX0_nextTurn_33 : decode cX0_nextTurn 33 = .ok (.istore_n 2, 1) := by decide +kernel
theorem dX0_nextTurn_34 : decode cX0_nextTurn 34 = .ok (.aload_n 0, 1) := by decide +kernel
theorem dX0_nextTurn_35 : decode cX0_nextTurn 35 = .ok (.iload_n 1, 1) := by decide +kernel
theorem dX0_nextTurn_36 : decode cX0_nextTurn 36 = .ok (.iload_n 2, 1) := by decide +kernel
theorem dX0_nextTurn_37 : decode cX0_nextTurn 37 = .ok (.aload_n 0, 1) := by decide +kernel
theorem dX0_nextTurn_38 : decode cX0_nextTurn 38 = .ok (.getfield 17, 3) := by decide +kernel
theorem dX0_nextTurn_41 : decode cX0_nextTurn 41 = .ok (.iload_n 3, 1) := by decide +kernel
theorem dX0_nextTurn_42 : decode cX0_nextTurn 42 = .ok (.aaload, 1) := by decide +kernel
theorem dX0_nextTurn_43 : decode cX0_nextTurn 43 = .ok (.getfield 60, 3) := by decide +kernel
theorem dX0_nextTurn_46 : decode cX0_nextTurn 46 = .ok (.invokevirtual 89, 3) := by decide +kernel
theorem dX0_nextTurn_49 : decode cX0_nextTurn 49 = .ok (.istore_n 2, 1) := by decide +kernel
theorem dX0_nextTurn_50 : decode cX0_nextTurn 50 = .ok (.iinc 3 1, 3) := by decide +kernel
theorem dX0_nextTurn_53 : decode cX0_nextTurn 53 = .ok (.goto (-49), 3) := by decide +kernel
theorem dX0_nextTurn_56 : decode cX0_nextTurn 56 = .ok (.iload_n 2, 1) := by decide +kernel
theorem dX0_nextTurn_57 : decode cX0_nextTurn 57 = .ok (.ireturn, 1) := by decide +kernel
theorem dX0_nearerTurn_0 : decode cX0_nearerTurn 0 = .ok (.iload_n 3, 1) := by decide +kernel
theorem dX0_nearerTurn_1 : decode cX0_nearerTurn 1 = .ok (.iload_n 1, 1) := by decide +kernel
theorem dX0_nearerTurn_2 : decode cX0_nearerTurn 2 = .ok (.if_icmp .le 17, 3) := by decide +kernel
theorem dX0_nearerTurn_5 : decode cX0_nearerTurn 5 = .ok (.iload_n 2, 1) := by decide +kernel
theorem dX0_nearerTurn_6 : decode cX0_nearerTurn 6 = .ok (.iconst (-1), 1) := by decide +kernel
theorem dX0_nearerTurn_7 : decode cX0_nearerTurn 7 = .ok (.if_icmp .eq 8, 3) := by decide +kernel
theorem dX0_nearerTurn_10 : decode cX0_nearerTurn 10 = .ok (.iload_n 3, 1) := by decide +kernel
theorem dX0_nearerTurn_11 : decode cX0_nearerTurn 11 = .ok (.iload_n 2, 1) := by decide +kernel
theorem dX0_nearerTurn_12 : decode cX0_nearerTurn 12 = .ok (.if_icmp .ge 7, 3) := by decide +kernel
theorem dX0_nearerTurn_15 : decode cX0_nearerTurn 15 = .ok (.iconst 1, 1) := by decide +kernel
theorem dX0_nearerTurn_16 : decode cX0_nearerTurn 16 = .ok (.goto 4, 3) := by decide +kernel
theorem dX0_nearerTurn_19 : decode cX0_nearerTurn 19 = .ok (.iconst 0, 1) := by decide +kernel
theorem dX0_nearerTurn_20 : decode cX0_nearerTurn 20 = .ok (.istore 4, 2) := by decide +kernel
theorem dX0_nearerTurn_22 : decode cX0_nearerTurn 22 = .ok (.iload 4, 2) := by decide +kernel
theorem dX0_nearerTurn_24 : decode cX0_nearerTurn 24 = .ok (.ifCond .eq 23, 3) := by decide +kernel
theorem dX0_nearerTurn_27 : decode cX0_nearerTurn 27 = .ok (.aload_n 0, 1) := by decide +kernel
theorem dX0_nearerTurn_28 : decode cX0_nearerTurn 28 = .ok (.iload_n 3, 1) := by decide +kernel
theorem dX0_nearerTurn_29 : decode cX0_nearerTurn 29 = .ok (.invokevirtual 93, 3) := by decide +kernel
theorem dX0_nearerTurn_32 : decode cX0_nearerTurn 32 = .ok (.ifCond .eq 15, 3) := by decide +kernel
theorem dX0_nearerTurn_35 : decode cX0_nearerTurn 35 = .ok (.aload_n 0, 1) := by decide +kernel
theorem dX0_nearerTurn_36 : decode cX0_nearerTurn 36 = .ok (.iload_n 3, 1) := by decide +kernel
theorem dX0_nearerTurn_37 : decode cX0_nearerTurn 37 = .ok (.invokevirtual 96, 3) := by decide +kernel
theorem dX0_nearerTurn_40 : decode cX0_nearerTurn 40 = .ok (.ifCond .eq 7, 3) := by decide +kernel
theorem dX0_nearerTurn_43 : decode cX0_nearerTurn 43 = .ok (.iload_n 3, 1) := by decide +kernel
theorem dX0_nearerTurn_44 : decode cX0_nearerTurn 44 = .ok (.goto 4, 3) := by decide +kernel
theorem dX0_nearerTurn_47 : decode cX0_nearerTurn 47 = .ok (.iload_n 2, 1) := by decide +kernel
theorem dX0_nearerTurn_48 : decode cX0_nearerTurn 48 = .ok (.ireturn, 1) := by decide +kernel
theorem dX0_isTurn_0 : decode cX0_isTurn 0 = .ok (.iconst 0, 1) := by decide +kernel
theorem dX0_isTurn_1 : decode cX0_isTurn 1 = .ok (.istore_n 2, 1) := by decide +kernel
theorem dX0_isTurn_2 : decode cX0_isTurn 2 = .ok (.iload_n 2, 1) := by decide +kernel
theorem dX0_isTurn_3 : decode cX0_isTurn 3 = .ok (.iconst 4, 1) := by decide +kernel
theorem dX0_isTurn_4 : decode cX0_isTurn 4 = .ok (.if_icmp .ge 28, 3) := by decide +kernel
theorem dX0_isTurn_7 : decode cX0_isTurn 7 = .ok (.aload_n 0, 1) := by decide +kernel
theorem dX0_isTurn_8 : decode cX0_isTurn 8 = .ok (.iload_n 1, 1) := by decide +kernel
theorem dX0_isTurn_9 : decode cX0_isTurn 9 = .ok (.iload_n 2, 1) := by decide +kernel
theorem dX0_isTurn_10 : decode cX0_isTurn 10 = .ok (.invokevirtual 73, 3) := by decide +kernel
theorem dX0_isTurn_13 : decode cX0_isTurn 13 = .ok (.aload_n 0, 1) := by decide +kernel
theorem dX0_isTurn_14 : decode cX0_isTurn 14 = .ok (.iload_n 1, 1) := by decide +kernel
theorem dX0_isTurn_15 : decode cX0_isTurn 15 = .ok (.iconst 1, 1) := by decide +kernel
theorem dX0_isTurn_16 : decode cX0_isTurn 16 = .ok (.isub, 1) := by decide +kernel
theorem dX0_isTurn_17 : decode cX0_isTurn 17 = .ok (.iload_n 2, 1) := by decide +kernel
theorem dX0_isTurn_18 : decode cX0_isTurn 18 = .ok (.invokevirtual 73, 3) := by decide +kernel
theorem dX0_isTurn_21 : decode cX0_isTurn 21 = .ok (.if_icmp .eq 5, 3) := by decide +kernel
theorem dX0_isTurn_24 : decode cX0_isTurn 24 = .ok (.iconst 1, 1) := by decide +kernel
theorem dX0_isTurn_25 : decode cX0_isTurn 25 = .ok (.ireturn, 1) := by decide +kernel
theorem dX0_isTurn_26 : decode cX0_isTurn 26 = .ok (.iinc 2 1, 3) := by decide +kernel
theorem dX0_isTurn_29 : decode cX0_isTurn 29 = .ok (.goto (-27), 3) := by decide +kernel
theorem dX0_isTurn_32 : decode cX0_isTurn 32 = .ok (.iconst 1, 1) := by decide +kernel
theorem dX0_isTurn_33 : decode cX0_isTurn 33 = .ok (.istore_n 2, 1) := by decide +kernel
theorem dX0_isTurn_34 : decode cX0_isTurn 34 = .ok (.iload_n 2, 1) := by decide +kernel
theorem dX0_isTurn_35 : decode cX0_isTurn 35 = .ok (.aload_n 0, 1) := by decide +kernel
theorem dX0_isTurn_36 : decode cX0_isTurn 36 = .ok (.getfield 48, 3) := by decide +kernel
theorem dX0_isTurn_39 : decode cX0_isTurn 39 = .ok (.if_icmp .ge 42, 3) := by decide +kernel
theorem dX0_isTurn_42 : decode cX0_isTurn 42 = .ok (.iload_n 2, 1) := by decide +kernel
theorem dX0_isTurn_43 : decode cX0_isTurn 43 = .ok (.bipush 9, 2) := by decide +kernel
theorem dX0_isTurn_45 : decode cX0_isTurn 45 = .ok (.if_icmp .ge 36, 3) := by decide +kernel
theorem dX0_isTurn_48 : decode cX0_isTurn 48 = .ok (.aload_n 0, 1) := by decide +kernel
theorem dX0_isTurn_49 : decode cX0_isTurn 49 = .ok (.getfield 17, 3) := by decide +kernel
theorem dX0_isTurn_52 : decode cX0_isTurn 52 = .ok (.iload_n 2, 1) := by decide +kernel
theorem dX0_isTurn_53 : decode cX0_isTurn 53 = .ok (.aaload, 1) := by decide +kernel
theorem dX0_isTurn_54 : decode cX0_isTurn 54 = .ok (.iload_n 1, 1) := by decide +kernel
theorem dX0_isTurn_55 : decode cX0_isTurn 55 = .ok (.invokevirtual 70, 3) := by decide +kernel
theorem dX0_isTurn_58 : decode cX0_isTurn 58 = .ok (.aload_n 0, 1) := by decide +kernel
theorem dX0_isTurn_59 : decode cX0_isTurn 59 = .ok (.getfield 17, 3) := by decide +kernel
theorem dX0_isTurn_62 : decode cX0_isTurn 62 = .ok (.iload_n 2, 1) := by decide +kernel
theorem dX0_isTurn_63 : decode cX0_isTurn 63 = .ok (.aaload, 1) := by decide +kernel
theorem dX0_isTurn_64 : decode cX0_isTurn 64 = .ok (.iload_n 1, 1) := by decide +kernel
theorem dX0_isTurn_65 : decode cX0_isTurn 65 = .ok (.iconst 1, 1) := by decide +kernel
theorem dX0_isTurn_66 : decode cX0_isTurn 66 = .ok (.isub, 1) := by decide +kernel
theorem dX0_isTurn_67 : decode cX0_isTurn 67 = .ok (.invokevirtual 70, 3) := by decide +kernel
theorem dX0_isTurn_70 : decode cX0_isTurn 70 = .ok (.if_icmp .eq 5, 3) := by decide +kernel
theorem dX0_isTurn_73 : decode cX0_isTurn 73 = .ok (.iconst 1, 1) := by decide +kernel
theorem dX0_isTurn_74 : decode cX0_isTurn 74 = .ok (.ireturn, 1) := by decide +kernel
theorem dX0_isTurn_75 : decode cX0_isTurn 75 = .ok (.iinc 2 1, 3) := by decide +kernel
theorem dX0_isTurn_78 : decode cX0_isTurn 78 = .ok (.goto (-44), 3) := by decide +kernel
theorem dX0_isTurn_81 : decode cX0_isTurn 81 = .ok (.iconst 0, 1) := by decide +kernel
theorem dX0_isTurn_82 : decode cX0_isTurn 82 = .ok (.ireturn, 1) := by decide +kernel
theorem dX0_eachMinuteTells_0 : decode cX0_eachMinuteTells 0 = .ok (.iconst 0, 1) := by decide +kernel
theorem dX0_eachMinuteTells_1 : decode cX0_eachMinuteTells 1 = .ok (.istore_n 1, 1) := by decide +kernel
theorem dX0_eachMinuteTells_2 : decode cX0_eachMinuteTells 2 = .ok (.iload_n 1, 1) := by decide +kernel
theorem dX0_eachMinuteTells_3 : decode cX0_eachMinuteTells 3 = .ok (.aload_n 0, 1) := by decide +kernel
theorem dX0_eachMinuteTells_4 : decode cX0_eachMinuteTells 4 = .ok (.getfield 48, 3) := by decide +kernel
theorem dX0_eachMinuteTells_7 : decode cX0_eachMinuteTells 7 = .ok (.if_icmp .ge 83, 3) := by decide +kernel
theorem dX0_eachMinuteTells_10 : decode cX0_eachMinuteTells 10 = .ok (.iload_n 1, 1) := by decide +kernel
theorem dX0_eachMinuteTells_11 : decode cX0_eachMinuteTells 11 = .ok (.bipush 9, 2) := by decide +kernel
theorem dX0_eachMinuteTells_13 : decode cX0_eachMinuteTells 13 = .ok (.if_icmp .ge 77, 3) := by decide +kernel
theorem dX0_eachMinuteTells_16 : decode cX0_eachMinuteTells 16 = .ok (.aload_n 0, 1) := by decide +kernel
theorem dX0_eachMinuteTells_17 : decode cX0_eachMinuteTells 17 = .ok (.aload_n 0, 1) := by decide +kernel
theorem dX0_eachMinuteTells_18 : decode cX0_eachMinuteTells 18 = .ok (.getfield 17, 3) := by decide +kernel
theorem dX0_eachMinuteTells_21 : decode cX0_eachMinuteTells 21 = .ok (.iload_n 1, 1) := by decide +kernel
theorem dX0_eachMinuteTells_22 : decode cX0_eachMinuteTells 22 = .ok (.aaload, 1) := by decide +kernel
theorem dX0_eachMinuteTells_23 : decode cX0_eachMinuteTells 23 = .ok (.getfield 57, 3) := by decide +kernel
theorem dX0_eachMinuteTells_26 : decode cX0_eachMinuteTells 26 = .ok (.invokevirtual 93, 3) := by decide +kernel
theorem dX0_eachMinuteTells_29 : decode cX0_eachMinuteTells 29 = .ok (.ifCond .eq 21, 3) := by decide +kernel
theorem dX0_eachMinuteTells_32 : decode cX0_eachMinuteTells 32 = .ok (.aload_n 0, 1) := by decide +kernel
theorem dX0_eachMinuteTells_33 : decode cX0_eachMinuteTells 33 = .ok (.aload_n 0, 1) := by decide +kernel
theorem dX0_eachMinuteTells_34 : decode cX0_eachMinuteTells 34 = .ok (.getfield 17, 3) := by decide +kernel
theorem dX0_eachMinuteTells_37 : decode cX0_eachMinuteTells 37 = .ok (.iload_n 1, 1) := by decide +kernel
theorem dX0_eachMinuteTells_38 : decode cX0_eachMinuteTells 38 = .ok (.aaload, 1) := by decide +kernel
theorem dX0_eachMinuteTells_39 : decode cX0_eachMinuteTells 39 = .ok (.getfield 57, 3) := by decide +kernel
theorem dX0_eachMinuteTells_42 : decode cX0_eachMinuteTells 42 = .ok (.invokevirtual 99, 3) := by decide +kernel
theorem dX0_eachMinuteTells_45 : decode cX0_eachMinuteTells 45 = .ok (.ifCond .ne 5, 3) := by decide +kernel
theorem dX0_eachMinuteTells_48 : decode cX0_eachMinuteTells 48 = .ok (.iconst 0, 1) := by decide +kernel
theorem dX0_eachMinuteTells_49 : decode cX0_eachMinuteTells 49 = .ok (.ireturn, 1) := by decide +kernel
theorem dX0_eachMinuteTells_50 : decode cX0_eachMinuteTells 50 = .ok (.aload_n 0, 1) := by decide +kernel
theorem dX0_eachMinuteTells_51 : decode cX0_eachMinuteTells 51 = .ok (.aload_n 0, 1) := by decide +kernel
theorem dX0_eachMinuteTells_52 : decode cX0_eachMinuteTells 52 = .ok (.getfield 17, 3) := by decide +kernel
theorem dX0_eachMinuteTells_55 : decode cX0_eachMinuteTells 55 = .ok (.iload_n 1, 1) := by decide +kernel
theorem dX0_eachMinuteTells_56 : decode cX0_eachMinuteTells 56 = .ok (.aaload, 1) := by decide +kernel
theorem dX0_eachMinuteTells_57 : decode cX0_eachMinuteTells 57 = .ok (.getfield 60, 3) := by decide +kernel
theorem dX0_eachMinuteTells_60 : decode cX0_eachMinuteTells 60 = .ok (.invokevirtual 93, 3) := by decide +kernel
theorem dX0_eachMinuteTells_63 : decode cX0_eachMinuteTells 63 = .ok (.ifCond .eq 21, 3) := by decide +kernel
theorem dX0_eachMinuteTells_66 : decode cX0_eachMinuteTells 66 = .ok (.aload_n 0, 1) := by decide +kernel
theorem dX0_eachMinuteTells_67 : decode cX0_eachMinuteTells 67 = .ok (.aload_n 0, 1) := by decide +kernel
theorem dX0_eachMinuteTells_68 : decode cX0_eachMinuteTells 68 = .ok (.getfield 17, 3) := by decide +kernel
theorem dX0_eachMinuteTells_71 : decode cX0_eachMinuteTells 71 = .ok (.iload_n 1, 1) := by decide +kernel
theorem dX0_eachMinuteTells_72 : decode cX0_eachMinuteTells 72 = .ok (.aaload, 1) := by decide +kernel
theorem dX0_eachMinuteTells_73 : decode cX0_eachMinuteTells 73 = .ok (.getfield 60, 3) := by decide +kernel
theorem dX0_eachMinuteTells_76 : decode cX0_eachMinuteTells 76 = .ok (.invokevirtual 99, 3) := by decide +kernel
theorem dX0_eachMinuteTells_79 : decode cX0_eachMinuteTells 79 = .ok (.ifCond .ne 5, 3) := by decide +kernel
theorem dX0_eachMinuteTells_82 : decode cX0_eachMinuteTells 82 = .ok (.iconst 0, 1) := by decide +kernel
theorem dX0_eachMinuteTells_83 : decode cX0_eachMinuteTells 83 = .ok (.ireturn, 1) := by decide +kernel
theorem dX0_eachMinuteTells_84 : decode cX0_eachMinuteTells 84 = .ok (.iinc 1 1, 3) := by decide +kernel
theorem dX0_eachMinuteTells_87 : decode cX0_eachMinuteTells 87 = .ok (.goto (-85), 3) := by decide +kernel
theorem dX0_eachMinuteTells_90 : decode cX0_eachMinuteTells 90 = .ok (.iconst 1, 1) := by decide +kernel
theorem dX0_eachMinuteTells_91 : decode cX0_eachMinuteTells 91 = .ok (.ireturn, 1) := by decide +kernel
theorem dX0_minuteTells_0 : decode cX0_minuteTells 0 = .ok (.iconst 0, 1) := by decide +kernel
theorem dX0_minuteTells_1 : decode cX0_minuteTells 1 = .ok (.istore_n 2, 1) := by decide +kernel
theorem dX0_minuteTells_2 : decode cX0_minuteTells 2 = .ok (.iload_n 2, 1) := by decide +kernel
theorem dX0_minuteTells_3 : decode cX0_minuteTells 3 = .ok (.iconst 4, 1) := by decide +kernel
theorem dX0_minuteTells_4 : decode cX0_minuteTells 4 = .ok (.if_icmp .ge 29, 3) := by decide +kernel
theorem dX0_minuteTells_7 : decode cX0_minuteTells 7 = .ok (.aload_n 0, 1) := by decide +kernel
theorem dX0_minuteTells_8 : decode cX0_minuteTells 8 = .ok (.getfield 17, 3) := by decide +kernel
theorem dX0_minuteTells_11 : decode cX0_minuteTells 11 = .ok (.aload_n 0, 1) := by decide +kernel
theorem dX0_minuteTells_12 : decode cX0_minuteTells 12 = .ok (.iload_n 1, 1) := by decide +kernel
theorem dX0_minuteTells_13 : decode cX0_minuteTells 13 = .ok (.iload_n 2, 1) := by decide +kernel
theorem dX0_minuteTells_14 : decode cX0_minuteTells 14 = .ok (.invokevirtual 73, 3) := by decide +kernel
theorem dX0_minuteTells_17 : decode cX0_minuteTells 17 = .ok (.aaload, 1) := by decide +kernel
theorem dX0_minuteTells_18 : decode cX0_minuteTells 18 = .ok (.iload_n 2, 1) := by decide +kernel
theorem dX0_minuteTells_19 : decode cX0_minuteTells 19 = .ok (.invokevirtual 67, 3) := by decide +kernel
theorem dX0_minuteTells_22 : decode cX0_minuteTells 22 = .ok (.ifCond .ne 5, 3) := by decide +kernel
theorem dX0_minuteTells_25 : decode cX0_minuteTells 25 = .ok (.iconst 0, 1) := by decide +kernel
theorem dX0_minuteTells_26 : decode cX0_minuteTells 26 = .ok (.ireturn, 1) := by decide +kernel
theorem dX0_minuteTells_27 : decode cX0_minuteTells 27 = .ok (.iinc 2 1, 3) := by decide +kernel
theorem dX0_minuteTells_30 : decode cX0_minuteTells 30 = .ok (.goto (-28), 3) := by decide +kernel
theorem dX0_minuteTells_33 : decode cX0_minuteTells 33 = .ok (.iconst 1, 1) := by decide +kernel
theorem dX0_minuteTells_34 : decode cX0_minuteTells 34 = .ok (.istore_n 2, 1) := by decide +kernel
theorem dX0_minuteTells_35 : decode cX0_minuteTells 35 = .ok (.iload_n 2, 1) := by decide +kernel
theorem dX0_minuteTells_36 : decode cX0_minuteTells 36 = .ok (.aload_n 0, 1) := by decide +kernel
theorem dX0_minuteTells_37 : decode cX0_minuteTells 37 = .ok (.getfield 48, 3) := by decide +kernel
theorem dX0_minuteTells_40 : decode cX0_minuteTells 40 = .ok (.if_icmp .ge 42, 3) := by decide +kernel
theorem dX0_minuteTells_43 : decode cX0_minuteTells 43 = .ok (.iload_n 2, 1) := by decide +kernel
theorem dX0_minuteTells_44 : decode cX0_minuteTells 44 = .ok (.bipush 9, 2) := by decide +kernel
theorem dX0_minuteTells_46 : decode cX0_minuteTells 46 = .ok (.if_icmp .ge 36, 3) := by decide +kernel
theorem dX0_minuteTells_49 : decode cX0_minuteTells 49 = .ok (.aload_n 0, 1) := by decide +kernel
theorem dX0_minuteTells_50 : decode cX0_minuteTells 50 = .ok (.getfield 17, 3) := by decide +kernel
theorem dX0_minuteTells_53 : decode cX0_minuteTells 53 = .ok (.iload_n 2, 1) := by decide +kernel
theorem dX0_minuteTells_54 : decode cX0_minuteTells 54 = .ok (.aaload, 1) := by decide +kernel
theorem dX0_minuteTells_55 : decode cX0_minuteTells 55 = .ok (.iload_n 1, 1) := by decide +kernel
theorem dX0_minuteTells_56 : decode cX0_minuteTells 56 = .ok (.invokevirtual 70, 3) := by decide +kernel
theorem dX0_minuteTells_59 : decode cX0_minuteTells 59 = .ok (.ifCond .eq 17, 3) := by decide +kernel
theorem dX0_minuteTells_62 : decode cX0_minuteTells 62 = .ok (.aload_n 0, 1) := by decide +kernel
theorem dX0_minuteTells_63 : decode cX0_minuteTells 63 = .ok (.getfield 17, 3) := by decide +kernel
theorem dX0_minuteTells_66 : decode cX0_minuteTells 66 = .ok (.iload_n 2, 1) := by decide +kernel
theorem dX0_minuteTells_67 : decode cX0_minuteTells 67 = .ok (.aaload, 1) := by decide +kernel
theorem dX0_minuteTells_68 : decode cX0_minuteTells 68 = .ok (.invokevirtual 102, 3) := by decide +kernel
theorem dX0_minuteTells_71 : decode cX0_minuteTells 71 = .ok (.ifCond .ne 5, 3) := by decide +kernel
theorem dX0_minuteTells_74 : decode cX0_minuteTells 74 = .ok (.iconst 0, 1) := by decide +kernel
theorem dX0_minuteTells_75 : decode cX0_minuteTells 75 = .ok (.ireturn, 1) := by decide +kernel
theorem dX0_minuteTells_76 : decode cX0_minuteTells 76 = .ok (.iinc 2 1, 3) := by decide +kernel
theorem dX0_minuteTells_79 : decode cX0_minuteTells 79 = .ok (.goto (-44), 3) := by decide +kernel
theorem dX0_minuteTells_82 : decode cX0_minuteTells 82 = .ok (.iconst 1, 1) := by decide +kernel
theorem dX0_minuteTells_83 : decode cX0_minuteTells 83 = .ok (.ireturn, 1) := by decide +kernel
theorem dX0_sameAs_0 : decode cX0_sameAs 0 = .ok (.aload_n 0, 1) := by decide +kernel
theorem dX0_sameAs_1 : decode cX0_sameAs 1 = .ok (.getfield 26, 3) := by decide +kernel
theorem dX0_sameAs_4 : decode cX0_sameAs 4 = .ok (.aload_n 1, 1) := by decide +kernel
theorem dX0_sameAs_5 : decode cX0_sameAs 5 = .ok (.getfield 26, 3) := by decide +kernel
theorem dX0_sameAs_8 : decode cX0_sameAs 8 = .ok (.if_icmp .ne 93, 3) := by decide +kernel
theorem dX0_sameAs_11 : decode cX0_sameAs 11 = .ok (.aload_n 0, 1) := by decide +kernel
theorem dX0_sameAs_12 : decode cX0_sameAs 12 = .ok (.getfield 30, 3) := by decide +kernel
theorem dX0_sameAs_15 : decode cX0_sameAs 15 = .ok (.aload_n 1, 1) := by decide +kernel
theorem dX0_sameAs_16 : decode cX0_sameAs 16 = .ok (.getfield 30, 3) := by decide +kernel
theorem dX0_sameAs_19 : decode cX0_sameAs 19 = .ok (.if_icmp .ne 82, 3) := by decide +kernel
theorem dX0_sameAs_22 : decode cX0_sameAs 22 = .ok (.aload_n 0, 1) := by decide +kernel
theorem dX0_sameAs_23 : decode cX0_sameAs 23 = .ok (.getfield 33, 3) := by decide +kernel
theorem dX0_sameAs_26 : decode cX0_sameAs 26 = .ok (.aload_n 1, 1) := by decide +kernel
theorem dX0_sameAs_27 : decode cX0_sameAs 27 = .ok (.getfield 33, 3) := by decide +kernel
theorem dX0_sameAs_30 : decode cX0_sameAs 30 = .ok (.if_icmp .ne 71, 3) := by decide +kernel
theorem dX0_sameAs_33 : decode cX0_sameAs 33 = .ok (.aload_n 0, 1) := by decide +kernel
theorem dX0_sameAs_34 : decode cX0_sameAs 34 = .ok (.getfield 36, 3) := by decide +kernel
theorem dX0_sameAs_37 : decode cX0_sameAs 37 = .ok (.aload_n 1, 1) := by decide +kernel
theorem dX0_sameAs_38 : decode cX0_sameAs 38 = .ok (.getfield 36, 3) := by decide +kernel
theorem dX0_sameAs_41 : decode cX0_sameAs 41 = .ok (.if_icmp .ne 60, 3) := by decide +kernel
theorem dX0_sameAs_44 : decode cX0_sameAs 44 = .ok (.aload_n 0, 1) := by decide +kernel
theorem dX0_sameAs_45 : decode cX0_sameAs 45 = .ok (.getfield 39, 3) := by decide +kernel
theorem dX0_sameAs_48 : decode cX0_sameAs 48 = .ok (.aload_n 1, 1) := by decide +kernel
theorem dX0_sameAs_49 : decode cX0_sameAs 49 = .ok (.getfield 39, 3) := by decide +kernel
theorem dX0_sameAs_52 : decode cX0_sameAs 52 = .ok (.if_icmp .ne 49, 3) := by decide +kernel
theorem dX0_sameAs_55 : decode cX0_sameAs 55 = .ok (.aload_n 0, 1) := by decide +kernel
theorem dX0_sameAs_56 : decode cX0_sameAs 56 = .ok (.getfield 42, 3) := by decide +kernel
theorem dX0_sameAs_59 : decode cX0_sameAs 59 = .ok (.aload_n 1, 1) := by decide +kernel
theorem dX0_sameAs_60 : decode cX0_sameAs 60 = .ok (.getfield 42, 3) := by decide +kernel
theorem dX0_sameAs_63 : decode cX0_sameAs 63 = .ok (.if_icmp .ne 38, 3) := by decide +kernel
theorem dX0_sameAs_66 : decode cX0_sameAs 66 = .ok (.aload_n 0, 1) := by decide +kernel
theorem dX0_sameAs_67 : decode cX0_sameAs 67 = .ok (.getfield 9, 3) := by decide +kernel
theorem dX0_sameAs_70 : decode cX0_sameAs 70 = .ok (.aload_n 1, 1) := by decide +kernel
theorem dX0_sameAs_71 : decode cX0_sameAs 71 = .ok (.getfield 9, 3) := by decide +kernel
theorem dX0_sameAs_74 : decode cX0_sameAs 74 = .ok (.iconst 4, 1) := by decide +kernel
theorem dX0_sameAs_75 : decode cX0_sameAs 75 = .ok (.invokestatic 106, 3) := by decide +kernel
theorem dX0_sameAs_78 : decode cX0_sameAs 78 = .ok (.ifCond .eq 23, 3) := by decide +kernel
theorem dX0_sameAs_81 : decode cX0_sameAs 81 = .ok (.aload_n 0, 1) := by decide +kernel
theorem dX0_sameAs_82 : decode cX0_sameAs 82 = .ok (.aload_n 1, 1) := by decide +kernel
theorem dX0_sameAs_83 : decode cX0_sameAs 83 = .ok (.invokevirtual 110, 3) := by decide +kernel
theorem dX0_sameAs_86 : decode cX0_sameAs 86 = .ok (.ifCond .eq 15, 3) := by decide +kernel
theorem dX0_sameAs_89 : decode cX0_sameAs 89 = .ok (.aload_n 0, 1) := by decide +kernel
theorem dX0_sameAs_90 : decode cX0_sameAs 90 = .ok (.aload_n 1, 1) := by decide +kernel
theorem dX0_sameAs_91 : decode cX0_sameAs 91 = .ok (.invokevirtual 114, 3) := by decide +kernel
theorem dX0_sameAs_94 : decode cX0_sameAs 94 = .ok (.ifCond .eq 7, 3) := by decide +kernel
theorem dX0_sameAs_97 : decode cX0_sameAs 97 = .ok (.iconst 1, 1) := by decide +kernel
theorem dX0_sameAs_98 : decode cX0_sameAs 98 = .ok (.goto 4, 3) := by decide +kernel
theorem dX0_sameAs_101 : decode cX0_sameAs 101 = .ok (.iconst 0, 1) := by decide +kernel
theorem dX0_sameAs_102 : decode cX0_sameAs 102 = .ok (.ireturn, 1) := by decide +kernel
theorem dX0_sameGroups_0 : decode cX0_sameGroups 0 = .ok (.aload_n 0, 1) := by decide +kernel
theorem dX0_sameGroups_1 : decode cX0_sameGroups 1 = .ok (.getfield 48, 3) := by decide +kernel
theorem dX0_sameGroups_4 : decode cX0_sameGroups 4 = .ok (.aload_n 1, 1) := by decide +kernel
theorem dX0_sameGroups_5 : decode cX0_sameGroups 5 = .ok (.getfield 48, 3) := by decide +kernel
theorem dX0_sameGroups_8 : decode cX0_sameGroups 8 = .ok (.if_icmp .eq 5, 3) := by decide +kernel
theorem dX0_sameGroups_11 : decode cX0_sameGroups 11 = .ok (.iconst 0, 1) := by decide +kernel
theorem dX0_sameGroups_12 : decode cX0_sameGroups 12 = .ok (.ireturn, 1) := by decide +kernel
theorem dX0_sameGroups_13 : decode cX0_sameGroups 13 = .ok (.iconst 0, 1) := by decide +kernel
theorem dX0_sameGroups_14 : decode cX0_sameGroups 14 = .ok (.istore_n 2, 1) := by decide +kernel
theorem dX0_sameGroups_15 : decode cX0_sameGroups 15 = .ok (.iload_n 2, 1) := by decide +kernel
theorem dX0_sameGroups_16 : decode cX0_sameGroups 16 = .ok (.aload_n 0, 1) := by decide +kernel
theorem dX0_sameGroups_17 : decode cX0_sameGroups 17 = .ok (.getfield 48, 3) := by decide +kernel
theorem dX0_sameGroups_20 : decode cX0_sameGroups 20 = .ok (.if_icmp .ge 35, 3) := by decide +kernel
theorem dX0_sameGroups_23 : decode cX0_sameGroups 23 = .ok (.iload_n 2, 1) := by decide +kernel
theorem dX0_sameGroups_24 : decode cX0_sameGroups 24 = .ok (.bipush 9, 2) := by decide +kernel
theorem dX0_sameGroups_26 : decode cX0_sameGroups 26 = .ok (.if_icmp .ge 29, 3) := by decide +kernel
theorem dX0_sameGroups_29 : decode cX0_sameGroups 29 = .ok (.aload_n 0, 1) := by decide +kernel
theorem dX0_sameGroups_30 : decode cX0_sameGroups 30 = .ok (.getfield 17, 3) := by decide +kernel
theorem dX0_sameGroups_33 : decode cX0_sameGroups 33 = .ok (.iload_n 2, 1) := by decide +kernel
theorem dX0_sameGroups_34 : decode cX0_sameGroups 34 = .ok (.aaload, 1) := by decide +kernel
theorem dX0_sameGroups_35 : decode cX0_sameGroups 35 = .ok (.aload_n 1, 1) := by decide +kernel
theorem dX0_sameGroups_36 : decode cX0_sameGroups 36 = .ok (.getfield 17, 3) := by decide +kernel
theorem dX0_sameGroups_39 : decode cX0_sameGroups 39 = .ok (.iload_n 2, 1) := by decide +kernel
theorem dX0_sameGroups_40 : decode cX0_sameGroups 40 = .ok (.aaload, 1) := by decide +kernel
theorem dX0_sameGroups_41 : decode cX0_sameGroups 41 = .ok (.invokevirtual 117, 3) := by decide +kernel
theorem dX0_sameGroups_44 : decode cX0_sameGroups 44 = .ok (.ifCond .ne 5, 3) := by decide +kernel
theorem dX0_sameGroups_47 : decode cX0_sameGroups 47 = .ok (.iconst 0, 1) := by decide +kernel
theorem dX0_sameGroups_48 : decode cX0_sameGroups 48 = .ok (.ireturn, 1) := by decide +kernel
theorem dX0_sameGroups_49 : decode cX0_sameGroups 49 = .ok (.iinc 2 1, 3) := by decide +kernel
theorem dX0_sameGroups_52 : decode cX0_sameGroups 52 = .ok (.goto (-37), 3) := by decide +kernel
theorem dX0_sameGroups_55 : decode cX0_sameGroups 55 = .ok (.iconst 1, 1) := by decide +kernel
theorem dX0_sameGroups_56 : decode cX0_sameGroups 56 = .ok (.ireturn, 1) := by decide +kernel
theorem dX0_sameText_0 : decode cX0_sameText 0 = .ok (.aload_n 0, 1) := by decide +kernel
theorem dX0_sameText_1 : decode cX0_sameText 1 = .ok (.getfield 45, 3) := by decide +kernel
theorem dX0_sameText_4 : decode cX0_sameText 4 = .ok (.aload_n 1, 1) := by decide +kernel
theorem dX0_sameText_5 : decode cX0_sameText 5 = .ok (.getfield 45, 3) := by decide +kernel
theorem dX0_sameText_8 : decode cX0_sameText 8 = .ok (.if_icmp .eq 5, 3) := by decide +kernel
theorem dX0_sameText_11 : decode cX0_sameText 11 = .ok (.iconst 0, 1) := by decide +kernel
theorem dX0_sameText_12 : decode cX0_sameText 12 = .ok (.ireturn, 1) := by decide +kernel
theorem dX0_sameText_13 : decode cX0_sameText 13 = .ok (.iconst 0, 1) := by decide +kernel
theorem dX0_sameText_14 : decode cX0_sameText 14 = .ok (.istore_n 2, 1) := by decide +kernel
theorem dX0_sameText_15 : decode cX0_sameText 15 = .ok (.iload_n 2, 1) := by decide +kernel
theorem dX0_sameText_16 : decode cX0_sameText 16 = .ok (.aload_n 0, 1) := by decide +kernel
theorem dX0_sameText_17 : decode cX0_sameText 17 = .ok (.getfield 45, 3) := by decide +kernel
theorem dX0_sameText_20 : decode cX0_sameText 20 = .ok (.if_icmp .ge 33, 3) := by decide +kernel
theorem dX0_sameText_23 : decode cX0_sameText 23 = .ok (.iload_n 2, 1) := by decide +kernel
theorem dX0_sameText_24 : decode cX0_sameText 24 = .ok (.sipush 700, 3) := by decide +kernel
theorem dX0_sameText_27 : decode cX0_sameText 27 = .ok (.if_icmp .ge 26, 3) := by decide +kernel
theorem dX0_sameText_30 : decode cX0_sameText 30 = .ok (.aload_n 0, 1) := by decide +kernel
theorem dX0_sameText_31 : decode cX0_sameText 31 = .ok (.getfield 21, 3) := by decide +kernel
theorem dX0_sameText_34 : decode cX0_sameText 34 = .ok (.iload_n 2, 1) := by decide +kernel
theorem dX0_sameText_35 : decode cX0_sameText 35 = .ok (.caload, 1) := by decide +kernel
theorem dX0_sameText_36 : decode cX0_sameText 36 = .ok (.aload_n 1, 1) := by decide +kernel
theorem dX0_sameText_37 : decode cX0_sameText 37 = .ok (.getfield 21, 3) := by decide +kernel
theorem dX0_sameText_40 : decode cX0_sameText 40 = .ok (.iload_n 2, 1) := by decide +kernel
theorem dX0_sameText_41 : decode cX0_sameText 41 = .ok (.caload, 1) := by decide +kernel
theorem dX0_sameText_42 : decode cX0_sameText 42 = .ok (.if_icmp .eq 5, 3) := by decide +kernel
theorem dX0_sameText_45 : decode cX0_sameText 45 = .ok (.iconst 0, 1) := by decide +kernel
theorem dX0_sameText_46 : decode cX0_sameText 46 = .ok (.ireturn, 1) := by decide +kernel
theorem dX0_sameText_47 : decode cX0_sameText 47 = .ok (.iinc 2 1, 3) := by decide +kernel
theorem dX0_sameText_50 : decode cX0_sameText 50 = .ok (.goto (-35), 3) := by decide +kernel
theorem dX0_sameText_53 : decode cX0_sameText 53 = .ok (.iconst 1, 1) := by decide +kernel
theorem dX0_sameText_54 : decode cX0_sameText 54 = .ok (.ireturn, 1) := by decide +kernel
theorem dX1_init_0 : decode cX1_init 0 = .ok (.aload_n 0, 1) := by decide +kernel
theorem dX1_init_1 : decode cX1_init 1 = .ok (.invokespecial 3, 3) := by decide +kernel
theorem dX1_init_4 : decode cX1_init 4 = .ok (.aload_n 0, 1) := by decide +kernel
theorem dX1_init_5 : decode cX1_init 5 = .ok (.iconst 3, 1) := by decide +kernel
theorem dX1_init_6 : decode cX1_init 6 = .ok (.newarray .int, 2) := by decide +kernel
theorem dX1_init_8 : decode cX1_init 8 = .ok (.putfield 9, 3) := by decide +kernel
theorem dX1_init_11 : decode cX1_init 11 = .ok (.aload_n 0, 1) := by decide +kernel
theorem dX1_init_12 : decode cX1_init 12 = .ok (.iconst 4, 1) := by decide +kernel
theorem dX1_init_13 : decode cX1_init 13 = .ok (.newarray .int, 2) := by decide +kernel
theorem dX1_init_15 : decode cX1_init 15 = .ok (.putfield 15, 3) := by decide +kernel
theorem dX1_init_18 : decode cX1_init 18 = .ok (.return_, 1) := by decide +kernel
theorem dX1_clear_0 : decode cX1_clear 0 = .ok (.aload_n 0, 1) := by decide +kernel
theorem dX1_clear_1 : decode cX1_clear 1 = .ok (.iconst 0, 1) := by decide +kernel
theorem dX1_clear_2 : decode cX1_clear 2 = .ok (.putfield 18, 3) := by decide +kernel
theorem dX1_clear_5 : decode cX1_clear 5 = .ok (.aload_n 0, 1) := by decide +kernel
theorem dX1_clear_6 : decode cX1_clear 6 = .ok (.iconst 0, 1) := by decide +kernel
theorem dX1_clear_7 : decode cX1_clear 7 = .ok (.putfield 22, 3) := by decide +kernel
theorem dX1_clear_10 : decode cX1_clear 10 = .ok (.aload_n 0, 1) := by decide +kernel
theorem dX1_clear_11 : decode cX1_clear 11 = .ok (.iconst (-1), 1) := by decide +kernel
theorem dX1_clear_12 : decode cX1_clear 12 = .ok (.putfield 25, 3) := by decide +kernel
theorem dX1_clear_15 : decode cX1_clear 15 = .ok (.aload_n 0, 1) := by decide +kernel
theorem dX1_clear_16 : decode cX1_clear 16 = .ok (.iconst (-1), 1) := by decide +kernel
theorem dX1_clear_17 : decode cX1_clear 17 = .ok (.putfield 28, 3) := by decide +kernel
theorem dX1_clear_20 : decode cX1_clear 20 = .ok (.aload_n 0, 1) := by decide +kernel
theorem dX1_clear_21 : decode cX1_clear 21 = .ok (.iconst (-1), 1) := by decide +kernel
theorem dX1_clear_22 : decode cX1_clear 22 = .ok (.putfield 31, 3) := by decide +kernel
theorem dX1_clear_25 : decode cX1_clear 25 = .ok (.aload_n 0, 1) := by decide +kernel
theorem dX1_clear_26 : decode cX1_clear 26 = .ok (.iconst (-1), 1) := by decide +kernel
theorem dX1_clear_27 : decode cX1_clear 27 = .ok (.putfield 34, 3) := by decide +kernel
theorem dX1_clear_30 : decode cX1_clear 30 = .ok (.aload_n 0, 1) := by decide +kernel
theorem dX1_clear_31 : decode cX1_clear 31 = .ok (.iconst (-1), 1) := by decide +kernel
theorem dX1_clear_32 : decode cX1_clear 32 = .ok (.putfield 37, 3) := by decide +kernel
theorem dX1_clear_35 : decode cX1_clear 35 = .ok (.aload_n 0, 1) := by decide +kernel
theorem dX1_clear_36 : decode cX1_clear 36 = .ok (.iconst (-1), 1) := by decide +kernel
theorem dX1_clear_37 : decode cX1_clear 37 = .ok (.putfield 40, 3) := by decide +kernel
theorem dX1_clear_40 : decode cX1_clear 40 = .ok (.aload_n 0, 1) := by decide +kernel
theorem dX1_clear_41 : decode cX1_clear 41 = .ok (.iconst (-1), 1) := by decide +kernel
theorem dX1_clear_42 : decode cX1_clear 42 = .ok (.putfield 43, 3) := by decide +kernel
theorem dX1_clear_45 : decode cX1_clear 45 = .ok (.aload_n 0, 1) := by decide +kernel
theorem dX1_clear_46 : decode cX1_clear 46 = .ok (.iconst (-1), 1) := by decide +kernel
theorem dX1_clear_47 : decode cX1_clear 47 = .ok (.putfield 46, 3) := by decide +kernel
theorem dX1_clear_50 : decode cX1_clear 50 = .ok (.return_, 1) := by decide +kernel
theorem dX1_addWeather_0 : decode cX1_addWeather 0 = .ok (.aload_n 0, 1) := by decide +kernel
theorem dX1_addWeather_1 : decode cX1_addWeather 1 = .ok (.getfield 43, 3) := by decide +kernel
theorem dX1_addWeather_4 : decode cX1_addWeather 4 = .ok (.iconst 0, 1) := by decide +kernel
theorem dX1_addWeather_5 : decode cX1_addWeather 5 = .ok (.invokestatic 49, 3) := by decide +kernel
theorem dX1_addWeather_8 : decode cX1_addWeather 8 = .ok (.istore_n 2, 1) := by decide +kernel
theorem dX1_addWeather_9 : decode cX1_addWeather 9 = .ok (.iload_n 2, 1) := by decide +kernel
theorem dX1_addWeather_10 : decode cX1_addWeather 10 = .ok (.iconst 3, 1) := by decide +kernel
theorem dX1_addWeather_11 : decode cX1_addWeather 11 = .ok (.if_icmp .ge 17, 3) := by decide +kernel
theorem dX1_addWeather_14 : decode cX1_addWeather 14 = .ok (.aload_n 0, 1) := by decide +kernel
theorem dX1_addWeather_15 : decode cX1_addWeather 15 = .ok (.getfield 9, 3) := by decide +kernel
theorem dX1_addWeather_18 : decode cX1_addWeather 18 = .ok (.iload_n 2, 1) := by decide +kernel
theorem dX1_addWeather_19 : decode cX1_addWeather 19 = .ok (.iload_n 1, 1) := by decide +kernel
theorem dX1_addWeather_20 : decode cX1_addWeather 20 = .ok (.iastore, 1) := by decide +kernel
theorem dX1_addWeather_21 : decode cX1_addWeather 21 = .ok (.aload_n 0, 1) := by decide +kernel
theorem dX1_addWeather_22 : decode cX1_addWeather 22 = .ok (.iload_n 2, 1) := by decide +kernel
theorem dX1_addWeather_23 : decode cX1_addWeather 23 = .ok (.iconst 1, 1) := by decide +kernel
theorem dX1_addWeather_24 : decode cX1_addWeather 24 = .ok (.iadd, 1) := by decide +kernel
theorem dX1_addWeather_25 : decode cX1_addWeather 25 = .ok (.putfield 43, 3) := by decide +kernel
theorem dX1_addWeather_28 : decode cX1_addWeather 28 = .ok (.return_, 1) := by decide +kernel
theorem dX1_addCloud_0 : decode cX1_addCloud 0 = .ok (.aload_n 0, 1) := by decide +kernel
theorem dX1_addCloud_1 : decode cX1_addCloud 1 = .ok (.getfield 46, 3) := by decide +kernel
theorem dX1_addCloud_4 : decode cX1_addCloud 4 = .ok (.iconst 0, 1) := by decide +kernel
theorem dX1_addCloud_5 : decode cX1_addCloud 5 = .ok (.invokestatic 49, 3) := by decide +kernel
theorem dX1_addCloud_8 : decode cX1_addCloud 8 = .ok (.istore_n 2, 1) := by decide +kernel
theorem dX1_addCloud_9 : decode cX1_addCloud 9 = .ok (.iload_n 2, 1) := by decide +kernel
theorem dX1_addCloud_10 : decode cX1_addCloud 10 = .ok (.iconst 4, 1) := by decide +kernel
theorem dX1_addCloud_11 : decode cX1_addCloud 11 = .ok (.if_icmp .ge 17, 3) := by decide +kernel
theorem dX1_addCloud_14 : decode cX1_addCloud 14 = .ok (.aload_n 0, 1) := by decide +kernel
theorem dX1_addCloud_15 : decode cX1_addCloud 15 = .ok (.getfield 15, 3) := by decide +kernel
theorem dX1_addCloud_18 : decode cX1_addCloud 18 = .ok (.iload_n 2, 1) := by decide +kernel
theorem dX1_addCloud_19 : decode cX1_addCloud 19 = .ok (.iload_n 1, 1) := by decide +kernel
theorem dX1_addCloud_20 : decode cX1_addCloud 20 = .ok (.iastore, 1) := by decide +kernel
theorem dX1_addCloud_21 : decode cX1_addCloud 21 = .ok (.aload_n 0, 1) := by decide +kernel
theorem dX1_addCloud_22 : decode cX1_addCloud 22 = .ok (.iload_n 2, 1) := by decide +kernel
theorem dX1_addCloud_23 : decode cX1_addCloud 23 = .ok (.iconst 1, 1) := by decide +kernel
theorem dX1_addCloud_24 : decode cX1_addCloud 24 = .ok (.iadd, 1) := by decide +kernel
theorem dX1_addCloud_25 : decode cX1_addCloud 25 = .ok (.putfield 46, 3) := by decide +kernel
theorem dX1_addCloud_28 : decode cX1_addCloud 28 = .ok (.return_, 1) := by decide +kernel
theorem dX1_tells_0 : decode cX1_tells 0 = .ok (.iload_n 1, 1) := by decide +kernel
theorem dX1_tells_1 : decode cX1_tells 1 = .ok (.tableswitch 69 0 2 #[27, 41, 55], 27) := by decide +kernel
theorem dX1_tells_28 : decode cX1_tells 28 = .ok (.aload_n 0, 1) := by decide +kernel
theorem dX1_tells_29 : decode cX1_tells 29 = .ok (.getfield 34, 3) := by decide +kernel
theorem dX1_tells_32 : decode cX1_tells 32 = .ok (.iconst (-1), 1) := by decide +kernel
theorem dX1_tells_33 : decode cX1_tells 33 = .ok (.if_icmp .eq 7, 3) := by decide +kernel
theorem dX1_tells_36 : decode cX1_tells 36 = .ok (.iconst 1, 1) := by decide +kernel
theorem dX1_tells_37 : decode cX1_tells 37 = .ok (.goto 4, 3) := by decide +kernel
theorem dX1_tells_40 : decode cX1_tells 40 = .ok (.iconst 0, 1) := by decide +kernel
theorem dX1_tells_41 : decode cX1_tells 41 = .ok (.ireturn, 1) := by decide +kernel
theorem dX1_tells_42 : decode cX1_tells 42 = .ok (.aload_n 0, 1) := by decide +kernel
theorem dX1_tells_43 : decode cX1_tells 43 = .ok (.getfield 40, 3) := by decide +kernel
theorem dX1_tells_46 : decode cX1_tells 46 = .ok (.iconst (-1), 1) := by decide +kernel
theorem dX1_tells_47 : decode cX1_tells 47 = .ok (.if_icmp .eq 7, 3) := by decide +kernel
theorem dX1_tells_50 : decode cX1_tells 50 = .ok (.iconst 1, 1) := by decide +kernel
theorem dX1_tells_51 : decode cX1_tells 51 = .ok (.goto 4, 3) := by decide +kernel
theorem dX1_tells_54 : decode cX1_tells 54 = .ok (.iconst 0, 1) := by decide +kernel
theorem dX1_tells_55 : decode cX1_tells 55 = .ok (.ireturn, 1) := by decide +kernel
theorem dX1_tells_56 : decode cX1_tells 56 = .ok (.aload_n 0, 1) := by decide +kernel
theorem dX1_tells_57 : decode cX1_tells 57 = .ok (.getfield 43, 3) := by decide +kernel
theorem dX1_tells_60 : decode cX1_tells 60 = .ok (.iconst (-1), 1) := by decide +kernel
theorem dX1_tells_61 : decode cX1_tells 61 = .ok (.if_icmp .eq 7, 3) := by decide +kernel
theorem dX1_tells_64 : decode cX1_tells 64 = .ok (.iconst 1, 1) := by decide +kernel
theorem dX1_tells_65 : decode cX1_tells 65 = .ok (.goto 4, 3) := by decide +kernel
theorem dX1_tells_68 : decode cX1_tells 68 = .ok (.iconst 0, 1) := by decide +kernel
theorem dX1_tells_69 : decode cX1_tells 69 = .ok (.ireturn, 1) := by decide +kernel
theorem dX1_tells_70 : decode cX1_tells 70 = .ok (.aload_n 0, 1) := by decide +kernel
theorem dX1_tells_71 : decode cX1_tells 71 = .ok (.getfield 46, 3) := by decide +kernel
theorem dX1_tells_74 : decode cX1_tells 74 = .ok (.iconst (-1), 1) := by decide +kernel
theorem dX1_tells_75 : decode cX1_tells 75 = .ok (.if_icmp .eq 7, 3) := by decide +kernel
theorem dX1_tells_78 : decode cX1_tells 78 = .ok (.iconst 1, 1) := by decide +kernel
theorem dX1_tells_79 : decode cX1_tells 79 = .ok (.goto 4, 3) := by decide +kernel
theorem dX1_tells_82 : decode cX1_tells 82 = .ok (.iconst 0, 1) := by decide +kernel
theorem dX1_tells_83 : decode cX1_tells 83 = .ok (.ireturn, 1) := by decide +kernel
theorem dX1_tellsSomething_0 : decode cX1_tellsSomething 0 = .ok (.aload_n 0, 1) := by decide +kernel
theorem dX1_tellsSomething_1 : decode cX1_tellsSomething 1 = .ok (.iconst 0, 1) := by decide +kernel
theorem dX1_tellsSomething_2 : decode cX1_tellsSomething 2 = .ok (.invokevirtual 55, 3) := by decide +kernel
theorem dX1_tellsSomething_5 : decode cX1_tellsSomething 5 = .ok (.ifCond .ne 27, 3) := by decide +kernel
theorem dX1_tellsSomething_8 : decode cX1_tellsSomething 8 = .ok (.aload_n 0, 1) := by decide +kernel
theorem dX1_tellsSomething_9 : decode cX1_tellsSomething 9 = .ok (.iconst 1, 1) := by decide +kernel
theorem dX1_tellsSomething_10 : decode cX1_tellsSomething 10 = .ok (.invokevirtual 55, 3) := by decide +kernel
theorem dX1_tellsSomething_13 : decode cX1_tellsSomething 13 = .ok (.ifCond .ne 19, 3) := by decide +kernel
theorem dX1_tellsSomething_16 : decode cX1_tellsSomething 16 = .ok (.aload_n 0, 1) := by decide +kernel
theorem dX1_tellsSomething_17 : decode cX1_tellsSomething 17 = .ok (.iconst 2, 1) := by decide +kernel
theorem dX1_tellsSomething_18 : decode cX1_tellsSomething 18 = .ok (.invokevirtual 55, 3) := by decide +kernel
theorem dX1_tellsSomething_21 : decode cX1_tellsSomething 21 = .ok (.ifCond .ne 11, 3) := by decide +kernel
theorem dX1_tellsSomething_24 : decode cX1_tellsSomething 24 = .ok (.aload_n 0, 1) := by decide +kernel
theorem dX1_tellsSomething_25 : decode cX1_tellsSomething 25 = .ok (.iconst 3, 1) := by decide +kernel
theorem dX1_tellsSomething_26 : decode cX1_tellsSomething 26 = .ok (.invokevirtual 55, 3) := by decide +kernel
theorem dX1_tellsSomething_29 : decode cX1_tellsSomething 29 = .ok (.ifCond .eq 7, 3) := by decide +kernel
theorem dX1_tellsSomething_32 : decode cX1_tellsSomething 32 = .ok (.iconst 1, 1) := by decide +kernel
theorem dX1_tellsSomething_33 : decode cX1_tellsSomething 33 = .ok (.goto 4, 3) := by decide +kernel
theorem dX1_tellsSomething_36 : decode cX1_tellsSomething 36 = .ok (.iconst 0, 1) := by decide +kernel
theorem dX1_tellsSomething_37 : decode cX1_tellsSomething 37 = .ok (.ireturn, 1) := by decide +kernel
theorem dX1_holdsAt_0 : decode cX1_holdsAt 0 = .ok (.aload_n 0, 1) := by decide +kernel
theorem dX1_holdsAt_1 : decode cX1_holdsAt 1 = .ok (.getfield 18, 3) := by decide +kernel
theorem dX1_holdsAt_4 : decode cX1_holdsAt 4 = .ok (.iconst 1, 1) := by decide +kernel
theorem dX1_holdsAt_5 : decode cX1_holdsAt 5 = .ok (.if_icmp .ne 11, 3) := by decide +kernel
theorem dX1_holdsAt_8 : decode cX1_holdsAt 8 = .ok (.iload_n 1, 1) := by decide +kernel
theorem dX1_holdsAt_9 : decode cX1_holdsAt 9 = .ok (.aload_n 0, 1) := by decide +kernel
theorem dX1_holdsAt_10 : decode cX1_holdsAt 10 = .ok (.getfield 25, 3) := by decide +kernel
theorem dX1_holdsAt_13 : decode cX1_holdsAt 13 = .ok (.if_icmp .ge 19, 3) := by decide +kernel
theorem dX1_holdsAt_16 : decode cX1_holdsAt 16 = .ok (.aload_n 0, 1) := by decide +kernel
theorem dX1_holdsAt_17 : decode cX1_holdsAt 17 = .ok (.getfield 18, 3) := by decide +kernel
theorem dX1_holdsAt_20 : decode cX1_holdsAt 20 = .ok (.iconst 2, 1) := by decide +kernel
theorem dX1_holdsAt_21 : decode cX1_holdsAt 21 = .ok (.if_icmp .ne 15, 3) := by decide +kernel
theorem dX1_holdsAt_24 : decode cX1_holdsAt 24 = .ok (.iload_n 1, 1) := by decide +kernel
theorem dX1_holdsAt_25 : decode cX1_holdsAt 25 = .ok (.aload_n 0, 1) := by decide +kernel
theorem dX1_holdsAt_26 : decode cX1_holdsAt 26 = .ok (.getfield 28, 3) := by decide +kernel
theorem dX1_holdsAt_29 : decode cX1_holdsAt 29 = .ok (.if_icmp .lt 7, 3) := by decide +kernel
theorem dX1_holdsAt_32 : decode cX1_holdsAt 32 = .ok (.iconst 1, 1) := by decide +kernel
theorem dX1_holdsAt_33 : decode cX1_holdsAt 33 = .ok (.goto 4, 3) := by decide +kernel
theorem dX1_holdsAt_36 : decode cX1_holdsAt 36 = .ok (.iconst 0, 1) := by decide +kernel
theorem dX1_holdsAt_37 : decode cX1_holdsAt 37 = .ok (.ireturn, 1) := by decide +kernel
theorem dX1_isActiveAt_0 : decode cX1_isActiveAt 0 = .ok (.aload_n 0, 1) := by decide +kernel
theorem dX1_isActiveAt_1 : decode cX1_isActiveAt 1 = .ok (.getfield 18, 3) := by decide +kernel
theorem dX1_isActiveAt_4 : decode cX1_isActiveAt 4 = .ok (.iconst 3, 1) := by decide +kernel
theorem dX1_isActiveAt_5 : decode cX1_isActiveAt 5 = .ok (.if_icmp .lt 23, 3) := by decide +kernel
theorem dX1_isActiveAt_8 : decode cX1_isActiveAt 8 = .ok (.iload_n 1, 1) := by decide +kernel
theorem dX1_isActiveAt_9 : decode cX1_isActiveAt 9 = .ok (.aload_n 0, 1) := by decide +kernel
theorem dX1_isActiveAt_10 : decode cX1_isActiveAt 10 = .ok (.getfield 25, 3) := by decide +kernel
theorem dX1_isActiveAt_13 : decode cX1_isActiveAt 13 = .ok (.if_icmp .lt 15, 3) := by decide +kernel
theorem dX1_isActiveAt_16 : decode cX1_isActiveAt 16 = .ok (.iload_n 1, 1) := by decide +kernel
theorem dX1_isActiveAt_17 : decode cX1_isActiveAt 17 = .ok (.aload_n 0, 1) := by decide +kernel
theorem dX1_isActiveAt_18 : decode cX1_isActiveAt 18 = .ok (.getfield 28, 3) := by decide +kernel
theorem dX1_isActiveAt_21 : decode cX1_isActiveAt 21 = .ok (.if_icmp .ge 7, 3) := by decide +kernel
theorem dX1_isActiveAt_24 : decode cX1_isActiveAt 24 = .ok (.iconst 1, 1) := by decide +kernel
theorem dX1_isActiveAt_25 : decode cX1_isActiveAt 25 = .ok (.goto 4, 3) := by decide +kernel
theorem dX1_isActiveAt_28 : decode cX1_isActiveAt 28 = .ok (.iconst 0, 1) := by decide +kernel
theorem dX1_isActiveAt_29 : decode cX1_isActiveAt 29 = .ok (.ireturn, 1) := by decide +kernel
theorem dX1_lowerCeiling_0 : decode cX1_lowerCeiling 0 = .ok (.iload_n 1, 1) := by decide +kernel
theorem dX1_lowerCeiling_1 : decode cX1_lowerCeiling 1 = .ok (.istore_n 2, 1) := by decide +kernel
theorem dX1_lowerCeiling_2 : decode cX1_lowerCeiling 2 = .ok (.iconst 0, 1) := by decide +kernel
theorem dX1_lowerCeiling_3 : decode cX1_lowerCeiling 3 = .ok (.istore_n 3, 1) := by decide +kernel
theorem dX1_lowerCeiling_4 : decode cX1_lowerCeiling 4 = .ok (.iload_n 3, 1) := by decide +kernel
theorem dX1_lowerCeiling_5 : decode cX1_lowerCeiling 5 = .ok (.aload_n 0, 1) := by decide +kernel
theorem dX1_lowerCeiling_6 : decode cX1_lowerCeiling 6 = .ok (.getfield 46, 3) := by decide +kernel
theorem dX1_lowerCeiling_9 : decode cX1_lowerCeiling 9 = .ok (.if_icmp .ge 53, 3) := by decide +kernel
theorem dX1_lowerCeiling_12 : decode cX1_lowerCeiling 12 = .ok (.iload_n 3, 1) := by decide +kernel
theorem dX1_lowerCeiling_13 : decode cX1_lowerCeiling 13 = .ok (.iconst 4, 1) := by decide +kernel
theorem dX1_lowerCeiling_14 : decode cX1_lowerCeiling 14 = .ok (.if_icmp .ge 48, 3) := by decide +kernel
theorem dX1_lowerCeiling_17 : decode cX1_lowerCeiling 17 = .ok (.aload_n 0, 1) := by decide +kernel
theorem dX1_lowerCeiling_18 : decode cX1_lowerCeiling 18 = .ok (.getfield 15, 3) := by decide +kernel
theorem dX1_lowerCeiling_21 : decode cX1_lowerCeiling 21 = .ok (.iload_n 3, 1) := by decide +kernel
theorem dX1_lowerCeiling_22 : decode cX1_lowerCeiling 22 = .ok (.iaload, 1) := by decide +kernel
theorem dX1_lowerCeiling_23 : decode cX1_lowerCeiling 23 = .ok (.invokestatic 59, 3) := by decide +kernel
theorem dX1_lowerCeiling_26 : decode cX1_lowerCeiling 26 = .ok (.istore 4, 2) := by decide +kernel
theorem dX1_lowerCeiling_28 : decode cX1_lowerCeiling 28 = .ok (.aload_n 0, 1) := by decide +kernel
theorem dX1_lowerCeiling_29 : decode cX1_lowerCeiling 29 = .ok (.getfield 15, 3) := by decide +kernel
theorem dX1_lowerCeiling_32 : decode cX1_lowerCeiling 32 = .ok (.iload_n 3, 1) := by decide +kernel
theorem dX1_lowerCeiling_33 : decode cX1_lowerCeiling 33 = .ok (.iaload, 1) := by decide +kernel
theorem dX1_lowerCeiling_34 : decode cX1_lowerCeiling 34 = .ok (.invokestatic 63, 3) := by decide +kernel
theorem dX1_lowerCeiling_37 : decode cX1_lowerCeiling 37 = .ok (.iconst 3, 1) := by decide +kernel
theorem dX1_lowerCeiling_38 : decode cX1_lowerCeiling 38 = .ok (.if_icmp .lt 18, 3) := by decide +kernel
theorem dX1_lowerCeiling_41 : decode cX1_lowerCeiling 41 = .ok (.iload_n 2, 1) := by decide +kernel
theorem dX1_lowerCeiling_42 : decode cX1_lowerCeiling 42 = .ok (.bipush (-2), 2) := by decide +kernel
theorem dX1_lowerCeiling_44 : decode cX1_lowerCeiling 44 = .ok (.if_icmp .eq 9, 3) := by decide +kernel
theorem dX1_lowerCeiling_47 : decode cX1_lowerCeiling 47 = .ok (.iload 4, 2) := by decide +kernel
theorem dX1_lowerCeiling_49 : decode cX1_lowerCeiling 49 = .ok (.iload_n 2, 1) := by decide +kernel
theorem dX1_lowerCeiling_50 : decode cX1_lowerCeiling 50 = .ok (.if_icmp .ge 6, 3) := by decide +kernel
theorem dX1_lowerCeiling_53 : decode cX1_lowerCeiling 53 = .ok (.iload 4, 2) := by decide +kernel
theorem dX1_lowerCeiling_55 : decode cX1_lowerCeiling 55 = .ok (.istore_n 2, 1) := by decide +kernel
theorem dX1_lowerCeiling_56 : decode cX1_lowerCeiling 56 = .ok (.iinc 3 1, 3) := by decide +kernel
theorem dX1_lowerCeiling_59 : decode cX1_lowerCeiling 59 = .ok (.goto (-55), 3) := by decide +kernel
theorem dX1_lowerCeiling_62 : decode cX1_lowerCeiling 62 = .ok (.iload_n 2, 1) := by decide +kernel
theorem dX1_lowerCeiling_63 : decode cX1_lowerCeiling 63 = .ok (.ireturn, 1) := by decide +kernel
theorem dX1_sameAs_0 : decode cX1_sameAs 0 = .ok (.aload_n 0, 1) := by decide +kernel
theorem dX1_sameAs_1 : decode cX1_sameAs 1 = .ok (.getfield 18, 3) := by decide +kernel
theorem dX1_sameAs_4 : decode cX1_sameAs 4 = .ok (.aload_n 1, 1) := by decide +kernel
theorem dX1_sameAs_5 : decode cX1_sameAs 5 = .ok (.getfield 18, 3) := by decide +kernel
theorem dX1_sameAs_8 : decode cX1_sameAs 8 = .ok (.if_icmp .ne 142, 3) := by decide +kernel
theorem dX1_sameAs_11 : decode cX1_sameAs 11 = .ok (.aload_n 0, 1) := by decide +kernel
theorem dX1_sameAs_12 : decode cX1_sameAs 12 = .ok (.getfield 22, 3) := by decide +kernel
theorem dX1_sameAs_15 : decode cX1_sameAs 15 = .ok (.aload_n 1, 1) := by decide +kernel
theorem dX1_sameAs_16 : decode cX1_sameAs 16 = .ok (.getfield 22, 3) := by decide +kernel
theorem dX1_sameAs_19 : decode cX1_sameAs 19 = .ok (.if_icmp .ne 131, 3) := by decide +kernel
theorem dX1_sameAs_22 : decode cX1_sameAs 22 = .ok (.aload_n 0, 1) := by decide +kernel
theorem dX1_sameAs_23 : decode cX1_sameAs 23 = .ok (.getfield 25, 3) := by decide +kernel
theorem dX1_sameAs_26 : decode cX1_sameAs 26 = .ok (.aload_n 1, 1) := by decide +kernel
theorem dX1_sameAs_27 : decode cX1_sameAs 27 = .ok (.getfield 25, 3) := by decide +kernel
theorem dX1_sameAs_30 : decode cX1_sameAs 30 = .ok (.if_icmp .ne 120, 3) := by decide +kernel
theorem dX1_sameAs_33 : decode cX1_sameAs 33 = .ok (.aload_n 0, 1) := by decide +kernel
theorem dX1_sameAs_34 : decode cX1_sameAs 34 = .ok (.getfield 28, 3) := by decide +kernel
theorem dX1_sameAs_37 : decode cX1_sameAs 37 = .ok (.aload_n 1, 1) := by decide +kernel
theorem dX1_sameAs_38 : decode cX1_sameAs 38 = .ok (.getfield 28, 3) := by decide +kernel
theorem dX1_sameAs_41 : decode cX1_sameAs 41 = .ok (.if_icmp .ne 109, 3) := by decide +kernel
theorem dX1_sameAs_44 : decode cX1_sameAs 44 = .ok (.aload_n 0, 1) := by decide +kernel
theorem dX1_sameAs_45 : decode cX1_sameAs 45 = .ok (.getfield 31, 3) := by decide +kernel
theorem dX1_sameAs_48 : decode cX1_sameAs 48 = .ok (.aload_n 1, 1) := by decide +kernel
theorem dX1_sameAs_49 : decode cX1_sameAs 49 = .ok (.getfield 31, 3) := by decide +kernel
theorem dX1_sameAs_52 : decode cX1_sameAs 52 = .ok (.if_icmp .ne 98, 3) := by decide +kernel
theorem dX1_sameAs_55 : decode cX1_sameAs 55 = .ok (.aload_n 0, 1) := by decide +kernel
theorem dX1_sameAs_56 : decode cX1_sameAs 56 = .ok (.getfield 34, 3) := by decide +kernel
theorem dX1_sameAs_59 : decode cX1_sameAs 59 = .ok (.aload_n 1, 1) := by decide +kernel
theorem dX1_sameAs_60 : decode cX1_sameAs 60 = .ok (.getfield 34, 3) := by decide +kernel
theorem dX1_sameAs_63 : decode cX1_sameAs 63 = .ok (.if_icmp .ne 87, 3) := by decide +kernel
theorem dX1_sameAs_66 : decode cX1_sameAs 66 = .ok (.aload_n 0, 1) := by decide +kernel
theorem dX1_sameAs_67 : decode cX1_sameAs 67 = .ok (.getfield 37, 3) := by decide +kernel
theorem dX1_sameAs_70 : decode cX1_sameAs 70 = .ok (.aload_n 1, 1) := by decide +kernel
theorem dX1_sameAs_71 : decode cX1_sameAs 71 = .ok (.getfield 37, 3) := by decide +kernel
theorem dX1_sameAs_74 : decode cX1_sameAs 74 = .ok (.if_icmp .ne 76, 3) := by decide +kernel
theorem dX1_sameAs_77 : decode cX1_sameAs 77 = .ok (.aload_n 0, 1) := by decide +kernel
theorem dX1_sameAs_78 : decode cX1_sameAs 78 = .ok (.getfield 40, 3) := by decide +kernel
theorem dX1_sameAs_81 : decode cX1_sameAs 81 = .ok (.aload_n 1, 1) := by decide +kernel
theorem dX1_sameAs_82 : decode cX1_sameAs 82 = .ok (.getfield 40, 3) := by decide +kernel
theorem dX1_sameAs_85 : decode cX1_sameAs 85 = .ok (.if_icmp .ne 65, 3) := by decide +kernel
theorem dX1_sameAs_88 : decode cX1_sameAs 88 = .ok (.aload_n 0, 1) := by decide +kernel
theorem dX1_sameAs_89 : decode cX1_sameAs 89 = .ok (.getfield 43, 3) := by decide +kernel
theorem dX1_sameAs_92 : decode cX1_sameAs 92 = .ok (.aload_n 1, 1) := by decide +kernel
theorem dX1_sameAs_93 : decode cX1_sameAs 93 = .ok (.getfield 43, 3) := by decide +kernel
theorem dX1_sameAs_96 : decode cX1_sameAs 96 = .ok (.if_icmp .ne 54, 3) := by decide +kernel
theorem dX1_sameAs_99 : decode cX1_sameAs 99 = .ok (.aload_n 0, 1) := by decide +kernel
theorem dX1_sameAs_100 : decode cX1_sameAs 100 = .ok (.getfield 46, 3) := by decide +kernel
theorem dX1_sameAs_103 : decode cX1_sameAs 103 = .ok (.aload_n 1, 1) := by decide +kernel
theorem dX1_sameAs_104 : decode cX1_sameAs 104 = .ok (.getfield 46, 3) := by decide +kernel
theorem dX1_sameAs_107 : decode cX1_sameAs 107 = .ok (.if_icmp .ne 43, 3) := by decide +kernel
theorem dX1_sameAs_110 : decode cX1_sameAs 110 = .ok (.aload_n 0, 1) := by decide +kernel
theorem dX1_sameAs_111 : decode cX1_sameAs 111 = .ok (.getfield 9, 3) := by decide +kernel
theorem dX1_sameAs_114 : decode cX1_sameAs 114 = .ok (.aload_n 1, 1) := by decide +kernel
theorem dX1_sameAs_115 : decode cX1_sameAs 115 = .ok (.getfield 9, 3) := by decide +kernel
theorem dX1_sameAs_118 : decode cX1_sameAs 118 = .ok (.aload_n 0, 1) := by decide +kernel
theorem dX1_sameAs_119 : decode cX1_sameAs 119 = .ok (.getfield 43, 3) := by decide +kernel
theorem dX1_sameAs_122 : decode cX1_sameAs 122 = .ok (.invokestatic 66, 3) := by decide +kernel
theorem dX1_sameAs_125 : decode cX1_sameAs 125 = .ok (.ifCond .eq 25, 3) := by decide +kernel
theorem dX1_sameAs_128 : decode cX1_sameAs 128 = .ok (.aload_n 0, 1) := by decide +kernel
theorem dX1_sameAs_129 : decode cX1_sameAs 129 = .ok (.getfield 15, 3) := by decide +kernel
theorem dX1_sameAs_132 : decode cX1_sameAs 132 = .ok (.aload_n 1, 1) := by decide +kernel
theorem dX1_sameAs_133 : decode cX1_sameAs 133 = .ok (.getfield 15, 3) := by decide +kernel
theorem dX1_sameAs_136 : decode cX1_sameAs 136 = .ok (.aload_n 0, 1) := by decide +kernel
theorem dX1_sameAs_137 : decode cX1_sameAs 137 = .ok (.getfield 46, 3) := by decide +kernel
theorem dX1_sameAs_140 : decode cX1_sameAs 140 = .ok (.invokestatic 66, 3) := by decide +kernel
theorem dX1_sameAs_143 : decode cX1_sameAs 143 = .ok (.ifCond .eq 7, 3) := by decide +kernel
theorem dX1_sameAs_146 : decode cX1_sameAs 146 = .ok (.iconst 1, 1) := by decide +kernel
theorem dX1_sameAs_147 : decode cX1_sameAs 147 = .ok (.goto 4, 3) := by decide +kernel
theorem dX1_sameAs_150 : decode cX1_sameAs 150 = .ok (.iconst 0, 1) := by decide +kernel
theorem dX1_sameAs_151 : decode cX1_sameAs 151 = .ok (.ireturn, 1) := by decide +kernel
theorem dX1_amountOf_0 : decode cX1_amountOf 0 = .ok (.iload_n 0, 1) := by decide +kernel
theorem dX1_amountOf_1 : decode cX1_amountOf 1 = .ok (.bipush 7, 2) := by decide +kernel
theorem dX1_amountOf_3 : decode cX1_amountOf 3 = .ok (.iand, 1) := by decide +kernel
theorem dX1_amountOf_4 : decode cX1_amountOf 4 = .ok (.ireturn, 1) := by decide +kernel
theorem dX1_heightOf_0 : decode cX1_heightOf 0 = .ok (.iload_n 0, 1) := by decide +kernel
theorem dX1_heightOf_1 : decode cX1_heightOf 1 = .ok (.iconst 3, 1) := by decide +kernel
theorem dX1_heightOf_2 : decode cX1_heightOf 2 = .ok (.ishr, 1) := by decide +kernel
theorem dX1_heightOf_3 : decode cX1_heightOf 3 = .ok (.sipush 1023, 3) := by decide +kernel
theorem dX1_heightOf_6 : decode cX1_heightOf 6 = .ok (.iand, 1) := by decide +kernel
theorem dX1_heightOf_7 : decode cX1_heightOf 7 = .ok (.ireturn, 1) := by decide +kernel
theorem dX1_sameStart_0 : decode cX1_sameStart 0 = .ok (.iconst 0, 1) := by decide +kernel
theorem dX1_sameStart_1 : decode cX1_sameStart 1 = .ok (.istore_n 3, 1) := by decide +kernel
theorem dX1_sameStart_2 : decode cX1_sameStart 2 = .ok (.iload_n 3, 1) := by decide +kernel
theorem dX1_sameStart_3 : decode cX1_sameStart 3 = .ok (.iload_n 2, 1) := by decide +kernel
theorem dX1_sameStart_4 : decode cX1_sameStart 4 = .ok (.if_icmp .ge 32, 3) := by decide +kernel
theorem dX1_sameStart_7 : decode cX1_sameStart 7 = .ok (.iload_n 3, 1) := by decide +kernel
theorem dX1_sameStart_8 : decode cX1_sameStart 8 = .ok (.aload_n 0, 1) := by decide +kernel
theorem dX1_sameStart_9 : decode cX1_sameStart 9 = .ok (.arraylength, 1) := by decide +kernel
theorem dX1_sameStart_10 : decode cX1_sameStart 10 = .ok (.if_icmp .ge 26, 3) := by decide +kernel
theorem dX1_sameStart_13 : decode cX1_sameStart 13 = .ok (.iload_n 3, 1) := by decide +kernel
theorem dX1_sameStart_14 : decode cX1_sameStart 14 = .ok (.aload_n 1, 1) := by decide +kernel
theorem dX1_sameStart_15 : decode cX1_sameStart 15 = .ok (.arraylength, 1) := by decide +kernel
theorem dX1_sameStart_16 : decode cX1_sameStart 16 = .ok (.if_icmp .ge 20, 3) := by decide +kernel
theorem dX1_sameStart_19 : decode cX1_sameStart 19 = .ok (.aload_n 0, 1) := by decide +kernel
theorem dX1_sameStart_20 : decode cX1_sameStart 20 = .ok (.iload_n 3, 1) := by decide +kernel
theorem dX1_sameStart_21 : decode cX1_sameStart 21 = .ok (.iaload, 1) := by decide +kernel
theorem dX1_sameStart_22 : decode cX1_sameStart 22 = .ok (.aload_n 1, 1) := by decide +kernel
theorem dX1_sameStart_23 : decode cX1_sameStart 23 = .ok (.iload_n 3, 1) := by decide +kernel
theorem dX1_sameStart_24 : decode cX1_sameStart 24 = .ok (.iaload, 1) := by decide +kernel
theorem dX1_sameStart_25 : decode cX1_sameStart 25 = .ok (.if_icmp .eq 5, 3) := by decide +kernel
theorem dX1_sameStart_28 : decode cX1_sameStart 28 = .ok (.iconst 0, 1) := by decide +kernel
theorem dX1_sameStart_29 : decode cX1_sameStart 29 = .ok (.ireturn, 1) := by decide +kernel
theorem dX1_sameStart_30 : decode cX1_sameStart 30 = .ok (.iinc 3 1, 3) := by decide +kernel
theorem dX1_sameStart_33 : decode cX1_sameStart 33 = .ok (.goto (-31), 3) := by decide +kernel
theorem dX1_sameStart_36 : decode cX1_sameStart 36 = .ok (.iconst 1, 1) := by decide +kernel
theorem dX1_sameStart_37 : decode cX1_sameStart 37 = .ok (.ireturn, 1) := by decide +kernel
theorem dX3_init_0 : decode cX3_init 0 = .ok (.aload_n 0, 1) := by decide +kernel
theorem dX3_init_1 : decode cX3_init 1 = .ok (.invokespecial 3, 3) := by decide +kernel
theorem dX3_init_4 : decode cX3_init 4 = .ok (.aload_n 0, 1) := by decide +kernel
theorem dX3_init_5 : decode cX3_init 5 = .ok (.sipush 700, 3) := by decide +kernel
theorem dX3_init_8 : decode cX3_init 8 = .ok (.newarray .char, 2) := by decide +kernel
theorem dX3_init_10 : decode cX3_init 10 = .ok (.putfield 9, 3) := by decide +kernel
theorem dX3_init_13 : decode cX3_init 13 = .ok (.aload_n 0, 1) := by decide +kernel
theorem dX3_init_14 : decode cX3_init 14 = .ok (.iconst 0, 1) := by decide +kernel
theorem dX3_init_15 : decode cX3_init 15 = .ok (.putfield 13, 3) := by decide +kernel
theorem dX3_init_18 : decode cX3_init 18 = .ok (.aload_n 0, 1) := by decide +kernel
theorem dX3_init_19 : decode cX3_init 19 = .ok (.sipush 700, 3) := by decide +kernel
theorem dX3_init_22 : decode cX3_init 22 = .ok (.newarray .char, 2) := by decide +kernel
theorem dX3_init_24 : decode cX3_init 24 = .ok (.putfield 17, 3) := by decide +kernel
theorem dX3_init_27 : decode cX3_init 27 = .ok (.aload_n 0, 1) := by decide +kernel
theorem dX3_init_28 : decode cX3_init 28 = .ok (.iconst 0, 1) := by decide +kernel
theorem dX3_init_29 : decode cX3_init 29 = .ok (.putfield 20, 3) := by decide +kernel
theorem dX3_init_32 : decode cX3_init 32 = .ok (.aload_n 0, 1) := by decide +kernel
theorem dX3_init_33 : decode cX3_init 33 = .ok (.new 23, 3) := by decide +kernel
theorem dX3_init_36 : decode cX3_init 36 = .ok (.dup, 1) := by decide +kernel
theorem dX3_init_37 : decode cX3_init 37 = .ok (.invokespecial 25, 3) := by decide +kernel
theorem dX3_init_40 : decode cX3_init 40 = .ok (.putfield 26, 3) := by decide +kernel
theorem dX3_init_43 : decode cX3_init 43 = .ok (.aload_n 0, 1) := by decide +kernel
theorem dX3_init_44 : decode cX3_init 44 = .ok (.new 23, 3) := by decide +kernel
theorem dX3_init_47 : decode cX3_init 47 = .ok (.dup, 1) := by decide +kernel
theorem dX3_init_48 : decode cX3_init 48 = .ok (.invokespecial 25, 3) := by decide +kernel
theorem dX3_init_51 : decode cX3_init 51 = .ok (.putfield 30, 3) := by decide +kernel
theorem dX3_init_54 : decode cX3_init 54 = .ok (.aload_n 0, 1) := by decide +kernel
theorem dX3_init_55 : decode cX3_init 55 = .ok (.new 33, 3) := by decide +kernel
theorem dX3_init_58 : decode cX3_init 58 = .ok (.dup, 1) := by decide +kernel
theorem dX3_init_59 : decode cX3_init 59 = .ok (.aload_n 0, 1) := by decide +kernel
theorem dX3_init_60 : decode cX3_init 60 = .ok (.getfield 9, 3) := by decide +kernel
theorem dX3_init_63 : decode cX3_init 63 = .ok (.aload_n 0, 1) := by decide +kernel
theorem dX3_init_64 : decode cX3_init 64 = .ok (.getfield 30, 3) := by decide +kernel
theorem dX3_init_67 : decode cX3_init 67 = .ok (.invokespecial 35, 3) := by decide +kernel
theorem dX3_init_70 : decode cX3_init 70 = .ok (.putfield 38, 3) := by decide +kernel
theorem dX3_init_73 : decode cX3_init 73 = .ok (.return_, 1) := by decide +kernel
theorem dX3_type_0 : decode cX3_type 0 = .ok (.iload_n 3, 1) := by decide +kernel
theorem dX3_type_1 : decode cX3_type 1 = .ok (.iconst 1, 1) := by decide +kernel
theorem dX3_type_2 : decode cX3_type 2 = .ok (.if_icmp .lt 21, 3) := by decide +kernel
theorem dX3_type_5 : decode cX3_type 5 = .ok (.iload_n 3, 1) := by decide +kernel
theorem dX3_type_6 : decode cX3_type 6 = .ok (.bipush 8, 2) := by decide +kernel
theorem dX3_type_8 : decode cX3_type 8 = .ok (.if_icmp .gt 15, 3) := by decide +kernel
theorem dX3_type_11 : decode cX3_type 11 = .ok (.aload_n 0, 1) := by decide +kernel
theorem dX3_type_12 : decode cX3_type 12 = .ok (.getfield 13, 3) := by decide +kernel
theorem dX3_type_15 : decode cX3_type 15 = .ok (.iload_n 3, 1) := by decide +kernel
theorem dX3_type_16 : decode cX3_type 16 = .ok (.iadd, 1) := by decide +kernel
theorem dX3_type_17 : decode cX3_type 17 = .ok (.sipush 700, 3) := by decide +kernel
theorem dX3_type_20 : decode cX3_type 20 = .ok (.if_icmp .le 5, 3) := by decide +kernel
theorem dX3_type_23 : decode cX3_type 23 = .ok (.iconst (-1), 1) := by decide +kernel
theorem dX3_type_24 : decode cX3_type 24 = .ok (.ireturn, 1) := by decide +kernel
theorem dX3_type_25 : decode cX3_type 25 = .ok (.iconst 0, 1) := by decide +kernel
theorem dX3_type_26 : decode cX3_type 26 = .ok (.istore 4, 2) := by decide +kernel
theorem dX3_type_28 : decode cX3_type 28 = .ok (.iload 4, 2) := by decide +kernel
theorem dX3_type_30 : decode cX3_type 30 = .ok (.iload_n 3, 1) := by decide +kernel
theorem dX3_type_31 : decode cX3_type 31 = .ok (.if_icmp .ge 33, 3) := by decide +kernel
theorem dX3_type_34 : decode cX3_type 34 = .ok (.lload_n 1, 1) := by decide +kernel
theorem dX3_type_35 : decode cX3_type 35 = .ok (.iload 4, 2) := by decide +kernel
theorem dX3_type_37 : decode cX3_type 37 = .ok (.invokestatic 42, 3) := by decide +kernel
theorem dX3_type_40 : decode cX3_type 40 = .ok (.istore 5, 2) := by decide +kernel
theorem dX3_type_42 : decode cX3_type 42 = .ok (.iload 5, 2) := by decide +kernel
theorem dX3_type_44 : decode cX3_type 44 = .ok (.bipush 32, 2) := by decide +kernel
theorem dX3_type_46 : decode cX3_type 46 = .ok (.if_icmp .lt 10, 3) := by decide +kernel
theorem dX3_type_49 : decode cX3_type 49 = .ok (.iload 5, 2) := by decide +kernel
theorem dX3_type_51 : decode cX3_type 51 = .ok (.bipush 126, 2) := by decide +kernel
theorem dX3_type_53 : decode cX3_type 53 = .ok (.if_icmp .le 5, 3) := by decide +kernel
theorem dX3_type_56 : decode cX3_type 56 = .ok (.iconst (-1), 1) := by decide +kernel
theorem dX3_type_57 : decode cX3_type 57 = .ok (.ireturn, 1) := by decide +kernel
theorem dX3_type_58 : decode cX3_type 58 = .ok (.iinc 4 1, 3) := by decide +kernel
theorem dX3_type_61 : decode cX3_type 61 = .ok (.goto (-33), 3) := by decide +kernel
theorem dX3_type_64 : decode cX3_type 64 = .ok (.iload_n 3, 1) := by decide +kernel
theorem dX3_type_65 : decode cX3_type 65 = .ok (.iconst 1, 1) := by decide +kernel
theorem dX3_type_66 : decode cX3_type 66 = .ok (.isub, 1) := by decide +kernel
theorem dX3_type_67 : decode cX3_type 67 = .ok (.istore 4, 2) := by decide +kernel
theorem dX3_type_69 : decode cX3_type 69 = .ok (.iload 4, 2) := by decide +kernel
theorem dX3_type_71 : decode cX3_type 71 = .ok (.ifCond .lt 35, 3) := by decide +kernel
theorem dX3_type_74 : decode cX3_type 74 = .ok (.aload_n 0, 1) := by decide +kernel
theorem dX3_type_75 : decode cX3_type 75 = .ok (.getfield 9, 3) := by decide +kernel
theorem dX3_type_78 : decode cX3_type 78 = .ok (.aload_n 0, 1) := by decide +kernel
theorem dX3_type_79 : decode cX3_type 79 = .ok (.getfield 13, 3) := by decide +kernel
theorem dX3_type_82 : decode cX3_type 82 = .ok (.lload_n 1, 1) := by decide +kernel
theorem dX3_type_83 : decode cX3_type 83 = .ok (.iload 4, 2) := by decide +kernel
theorem dX3_type_85 : decode cX3_type 85 = .ok (.invokestatic 42, 3) := by decide +kernel
theorem dX3_type_88 : decode cX3_type 88 = .ok (.i2c, 1) := by decide +kernel
theorem dX3_type_89 : decode cX3_type 89 = .ok (.castore, 1) := by decide +kernel
theorem dX3_type_90 : decode cX3_type 90 = .ok (.aload_n 0, 1) := by decide +kernel
theorem dX3_type_91 : decode cX3_type 91 = .ok (.dup, 1) := by decide +kernel
theorem dX3_type_92 : decode cX3_type 92 = .ok (.getfield 13, 3) := by decide +kernel
theorem dX3_type_95 : decode cX3_type 95 = .ok (.iconst 1, 1) := by decide +kernel
theorem dX3_type_96 : decode cX3_type 96 = .ok (.iadd, 1) := by decide +kernel
theorem dX3_type_97 : decode cX3_type 97 = .ok (.putfield 13, 3) := by decide +kernel
theorem dX3_type_100 : decode cX3_type 100 = .ok (.iinc 4 (-1), 3) := by decide +kernel
theorem dX3_type_103 : decode cX3_type 103 = .ok (.goto (-34), 3) := by decide +kernel
theorem dX3_type_106 : decode cX3_type 106 = .ok (.aload_n 0, 1) := by decide +kernel
theorem dX3_type_107 : decode cX3_type 107 = .ok (.getfield 13, 3) := by decide +kernel
theorem dX3_type_110 : decode cX3_type 110 = .ok (.ireturn, 1) := by decide +kernel
theorem dX3_read_0 : decode cX3_read 0 = .ok (.iload_n 1, 1) := by decide +kernel
theorem dX3_read_1 : decode cX3_read 1 = .ok (.bipush 28, 2) := by decide +kernel
theorem dX3_read_3 : decode cX3_read 3 = .ok (.if_icmp .lt 9, 3) := by decide +kernel
theorem dX3_read_6 : decode cX3_read 6 = .ok (.iload_n 1, 1) := by decide +kernel
theorem dX3_read_7 : decode cX3_read 7 = .ok (.bipush 31, 2) := by decide +kernel
theorem dX3_read_9 : decode cX3_read 9 = .ok (.if_icmp .le 5, 3) := by decide +kernel
theorem dX3_read_12 : decode cX3_read 12 = .ok (.iconst (-1), 1) := by decide +kernel
theorem dX3_read_13 : decode cX3_read 13 = .ok (.ireturn, 1) := by decide +kernel
theorem dX3_read_14 : decode cX3_read 14 = .ok (.aload_n 0, 1) := by decide +kernel
theorem dX3_read_15 : decode cX3_read 15 = .ok (.getfield 38, 3) := by decide +kernel
theorem dX3_read_18 : decode cX3_read 18 = .ok (.aload_n 0, 1) := by decide +kernel
theorem dX3_read_19 : decode cX3_read 19 = .ok (.getfield 9, 3) := by decide +kernel
theorem dX3_read_22 : decode cX3_read 22 = .ok (.aload_n 0, 1) := by decide +kernel
theorem dX3_read_23 : decode cX3_read 23 = .ok (.getfield 13, 3) := by decide +kernel
theorem dX3_read_26 : decode cX3_read 26 = .ok (.iload_n 1, 1) := by decide +kernel
theorem dX3_read_27 : decode cX3_read 27 = .ok (.aload_n 0, 1) := by decide +kernel
theorem dX3_read_28 : decode cX3_read 28 = .ok (.getfield 30, 3) := by decide +kernel
theorem dX3_read_31 : decode cX3_read 31 = .ok (.invokevirtual 46, 3) := by decide +kernel
theorem dX3_read_34 : decode cX3_read 34 = .ok (.istore_n 2, 1) := by decide +kernel
theorem dX3_read_35 : decode cX3_read 35 = .ok (.aload_n 0, 1) := by decide +kernel
theorem dX3_read_36 : decode cX3_read 36 = .ok (.iconst 0, 1) := by decide +kernel
theorem dX3_read_37 : decode cX3_read 37 = .ok (.putfield 13, 3) := by decide +kernel
theorem dX3_read_40 : decode cX3_read 40 = .ok (.iload_n 2, 1) := by decide +kernel
theorem dX3_read_41 : decode cX3_read 41 = .ok (.ifCond .ne 21, 3) := by decide +kernel
theorem dX3_read_44 : decode cX3_read 44 = .ok (.aload_n 0, 1) := by decide +kernel
theorem dX3_read_45 : decode cX3_read 45 = .ok (.getfield 26, 3) := by decide +kernel
theorem dX3_read_48 : decode cX3_read 48 = .ok (.astore_n 3, 1) := by decide +kernel
theorem dX3_read_49 : decode cX3_read 49 = .ok (.aload_n 0, 1) := by decide +kernel
theorem dX3_read_50 : decode cX3_read 50 = .ok (.aload_n 0, 1) := by decide +kernel
theorem dX3_read_51 : decode cX3_read 51 = .ok (.getfield 30, 3) := by decide +kernel
theorem dX3_read_54 : decode cX3_read 54 = .ok (.putfield 26, 3) := by decide +kernel
theorem dX3_read_57 : decode cX3_read 57 = .ok (.aload_n 0, 1) := by decide +kernel
theorem dX3_read_58 : decode cX3_read 58 = .ok (.aload_n 3, 1) := by decide +kernel
theorem dX3_read_59 : decode cX3_read 59 = .ok (.putfield 30, 3) := by decide +kernel
theorem dX3_read_62 : decode cX3_read 62 = .ok (.iload_n 2, 1) := by decide +kernel
theorem dX3_read_63 : decode cX3_read 63 = .ok (.ireturn, 1) := by decide +kernel
theorem dX3_told_0 : decode cX3_told 0 = .ok (.iload_n 1, 1) := by decide +kernel
theorem dX3_told_1 : decode cX3_told 1 = .ok (.ifCond .ne 11, 3) := by decide +kernel
theorem dX3_told_4 : decode cX3_told 4 = .ok (.aload_n 0, 1) := by decide +kernel
theorem dX3_told_5 : decode cX3_told 5 = .ok (.getfield 26, 3) := by decide +kernel
theorem dX3_told_8 : decode cX3_told 8 = .ok (.getfield 50, 3) := by decide +kernel
theorem dX3_told_11 : decode cX3_told 11 = .ok (.ireturn, 1) := by decide +kernel
theorem dX3_told_12 : decode cX3_told 12 = .ok (.iload_n 1, 1) := by decide +kernel
theorem dX3_told_13 : decode cX3_told 13 = .ok (.iconst 1, 1) := by decide +kernel
theorem dX3_told_14 : decode cX3_told 14 = .ok (.if_icmp .ne 11, 3) := by decide +kernel
theorem dX3_told_17 : decode cX3_told 17 = .ok (.aload_n 0, 1) := by decide +kernel
theorem dX3_told_18 : decode cX3_told 18 = .ok (.getfield 26, 3) := by decide +kernel
theorem dX3_told_21 : decode cX3_told 21 = .ok (.getfield 53, 3) := by decide +kernel
theorem dX3_told_24 : decode cX3_told 24 = .ok (.ireturn, 1) := by decide +kernel
theorem dX3_told_25 : decode cX3_told 25 = .ok (.aload_n 0, 1) := by decide +kernel
theorem dX3_told_26 : decode cX3_told 26 = .ok (.getfield 26, 3) := by decide +kernel
theorem dX3_told_29 : decode cX3_told 29 = .ok (.getfield 50, 3) := by decide +kernel
theorem dX3_told_32 : decode cX3_told 32 = .ok (.ifCond .ne 7, 3) := by decide +kernel
theorem dX3_told_35 : decode cX3_told 35 = .ok (.sipush (-1001), 3) := by decide +kernel
theorem dX3_told_38 : decode cX3_told 38 = .ok (.ireturn, 1) := by decide +kernel
theorem dX3_told_39 : decode cX3_told 39 = .ok (.iload_n 1, 1) := by decide +kernel
theorem dX3_told_40 : decode cX3_told 40 = .ok (.tableswitch 64 2 5 #[32, 40, 48, 56], 32) := by decide +kernel
theorem dX3_told_72 : decode cX3_told 72 = .ok (.aload_n 0, 1) := by decide +kernel
theorem dX3_told_73 : decode cX3_told 73 = .ok (.getfield 26, 3) := by decide +kernel
theorem dX3_told_76 : decode cX3_told 76 = .ok (.getfield 56, 3) := by decide +kernel
theorem dX3_told_79 : decode cX3_told 79 = .ok (.ireturn, 1) := by decide +kernel
theorem dX3_told_80 : decode cX3_told 80 = .ok (.aload_n 0, 1) := by decide +kernel
theorem dX3_told_81 : decode cX3_told 81 = .ok (.getfield 26, 3) := by decide +kernel
theorem dX3_told_84 : decode cX3_told 84 = .ok (.getfield 59, 3) := by decide +kernel
theorem dX3_told_87 : decode cX3_told 87 = .ok (.ireturn, 1) := by decide +kernel
theorem dX3_told_88 : decode cX3_told 88 = .ok (.aload_n 0, 1) := by decide +kernel
theorem dX3_told_89 : decode cX3_told 89 = .ok (.getfield 26, 3) := by decide +kernel
theorem dX3_told_92 : decode cX3_told 92 = .ok (.getfield 62, 3) := by decide +kernel
theorem dX3_told_95 : decode cX3_told 95 = .ok (.ireturn, 1) := by decide +kernel
theorem dX3_told_96 : decode cX3_told 96 = .ok (.aload_n 0, 1) := by decide +kernel
theorem dX3_told_97 : decode cX3_told 97 = .ok (.getfield 26, 3) := by decide +kernel
theorem dX3_told_100 : decode cX3_told 100 = .ok (.getfield 65, 3) := by decide +kernel
theorem dX3_told_103 : decode cX3_told 103 = .ok (.ireturn, 1) := by decide +kernel
theorem dX3_told_104 : decode cX3_told 104 = .ok (.iload_n 1, 1) := by decide +kernel
theorem dX3_told_105 : decode cX3_told 105 = .ok (.bipush 6, 2) := by decide +kernel
theorem dX3_told_107 : decode cX3_told 107 = .ok (.if_icmp .lt 24, 3) := by decide +kernel
theorem dX3_told_110 : decode cX3_told 110 = .ok (.iload_n 1, 1) := by decide +kernel
theorem dX3_told_111 : decode cX3_told 111 = .ok (.bipush 10, 2) := by decide +kernel
theorem dX3_told_113 : decode cX3_told 113 = .ok (.if_icmp .ge 18, 3) := by decide +kernel
theorem dX3_told_116 : decode cX3_told 116 = .ok (.aload_n 0, 1) := by decide +kernel
theorem dX3_told_117 : decode cX3_told 117 = .ok (.getfield 26, 3) := by decide +kernel
theorem dX3_told_120 : decode cX3_told 120 = .ok (.getfield 68, 3) := by decide +kernel
theorem dX3_told_123 : decode cX3_told 123 = .ok (.iload_n 1, 1) := by decide +kernel
theorem dX3_told_124 : decode cX3_told 124 = .ok (.bipush 6, 2) := by decide +kernel
theorem dX3_told_126 : decode cX3_told 126 = .ok (.isub, 1) := by decide +kernel
theorem dX3_told_127 : decode cX3_told 127 = .ok (.iaload, 1) := by decide +kernel
theorem dX3_told_128 : decode cX3_told 128 = .ok (.goto 6, 3) := by decide +kernel
theorem dX3_told_131 : decode cX3_told 131 = .ok (.sipush (-1001), 3) := by decide +kernel
theorem dX3_told_134 : decode cX3_told 134 = .ok (.ireturn, 1) := by decide +kernel
theorem dX3_group_0 : decode cX3_group 0 = .ok (.aload_n 0, 1) := by decide +kernel
theorem dX3_group_1 : decode cX3_group 1 = .ok (.getfield 26, 3) := by decide +kernel
theorem dX3_group_4 : decode cX3_group 4 = .ok (.iload_n 1, 1) := by decide +kernel
theorem dX3_group_5 : decode cX3_group 5 = .ok (.invokevirtual 72, 3) := by decide +kernel
theorem dX3_group_8 : decode cX3_group 8 = .ok (.ifCond .ne 5, 3) := by decide +kernel
theorem dX3_group_11 : decode cX3_group 11 = .ok (.iconst (-1), 1) := by decide +kernel
theorem dX3_group_12 : decode cX3_group 12 = .ok (.ireturn, 1) := by decide +kernel
theorem dX3_group_13 : decode cX3_group 13 = .ok (.aload_n 0, 1) := by decide +kernel
theorem dX3_group_14 : decode cX3_group 14 = .ok (.getfield 26, 3) := by decide +kernel
theorem dX3_group_17 : decode cX3_group 17 = .ok (.getfield 76, 3) := by decide +kernel
theorem dX3_group_20 : decode cX3_group 20 = .ok (.iload_n 1, 1) := by decide +kernel
theorem dX3_group_21 : decode cX3_group 21 = .ok (.aaload, 1) := by decide +kernel
theorem dX3_group_22 : decode cX3_group 22 = .ok (.astore_n 3, 1) := by decide +kernel
theorem dX3_group_23 : decode cX3_group 23 = .ok (.iload_n 2, 1) := by decide +kernel
theorem dX3_group_24 : decode cX3_group 24 = .ok (.tableswitch 106 0 9 #[56, 61, 66, 71, 76, 81, 86, 91, 96, 101], 56) := by decide +kernel
theorem dX3_group_80 : decode cX3_group 80 = .ok (.aload_n 3, 1) := by decide +kernel
theorem dX3_group_81 : decode cX3_group 81 = .ok (.getfield 80, 3) := by decide +kernel
theorem dX3_group_84 : decode cX3_group 84 = .ok (.ireturn, 1) := by decide +kernel
theorem dX3_group_85 : decode cX3_group 85 = .ok (.aload_n 3, 1) := by decide +kernel
theorem dX3_group_86 : decode cX3_group 86 = .ok (.getfield 83, 3) := by decide +kernel
theorem dX3_group_89 : decode cX3_group 89 = .ok (.ireturn, 1) := by decide +kernel
theorem dX3_group_90 : decode cX3_group 90 = .ok (.aload_n 3, 1) := by decide +kernel
theorem dX3_group_91 : decode cX3_group 91 = .ok (.getfield 86, 3) := by decide +kernel
theorem dX3_group_94 : decode cX3_group 94 = .ok (.ireturn, 1) := by decide +kernel
theorem dX3_group_95 : decode cX3_group 95 = .ok (.aload_n 3, 1) := by decide +kernel
theorem dX3_group_96 : decode cX3_group 96 = .ok (.getfield 89, 3) := by decide +kernel
theorem dX3_group_99 : decode cX3_group 99 = .ok (.ireturn, 1) := by decide +kernel
theorem dX3_group_100 : decode cX3_group 100 = .ok (.aload_n 3, 1) := by decide +kernel
theorem dX3_group_101 : decode cX3_group 101 = .ok (.getfield 92, 3) := by decide +kernel
theorem dX3_group_104 : decode cX3_group 104 = .ok (.ireturn, 1) := by decide +kernel
theorem dX3_group_105 : decode cX3_group 105 = .ok (.aload_n 3, 1) := by decide +kernel
theorem dX3_group_106 : decode cX3_group 106 = .ok (.getfield 95, 3) := by decide +kernel
theorem dX3_group_109 : decode cX3_group 109 = .ok (.ireturn, 1) := by decide +kernel
theorem dX3_group_110 : decode cX3_group 110 = .ok (.aload_n 3, 1) := by decide +kernel
theorem dX3_group_111 : decode cX3_group 111 = .ok (.getfield 98, 3) := by decide +kernel
theorem dX3_group_114 : decode cX3_group 114 = .ok (.ireturn, 1) := by decide +kernel
theorem dX3_group_115 : decode cX3_group 115 = .ok (.aload_n 3, 1) := by decide +kernel
theorem dX3_group_116 : decode cX3_group 116 = .ok (.getfield 101, 3) := by decide +kernel
theorem dX3_group_119 : decode cX3_group 119 = .ok (.ireturn, 1) := by decide +kernel
theorem dX3_group_120 : decode cX3_group 120 = .ok (.aload_n 3, 1) := by decide +kernel
theorem dX3_group_121 : decode cX3_group 121 = .ok (.getfield 104, 3) := by decide +kernel
theorem dX3_group_124 : decode cX3_group 124 = .ok (.ireturn, 1) := by decide +kernel
theorem dX3_group_125 : decode cX3_group 125 = .ok (.aload_n 3, 1) := by decide +kernel
theorem dX3_group_126 : decode cX3_group 126 = .ok (.getfield 107, 3) := by decide +kernel
theorem dX3_group_129 : decode cX3_group 129 = .ok (.ireturn, 1) := by decide +kernel
theorem dX3_group_130 : decode cX3_group 130 = .ok (.iconst (-1), 1) := by decide +kernel
theorem dX3_group_131 : decode cX3_group 131 = .ok (.ireturn, 1) := by decide +kernel
theorem dX3_weather_0 : decode cX3_weather 0 = .ok (.aload_n 0, 1) := by decide +kernel
theorem dX3_weather_1 : decode cX3_weather 1 = .ok (.getfield 26, 3) := by decide +kernel
theorem dX3_weather_4 : decode cX3_weather 4 = .ok (.iload_n 1, 1) := by decide +kernel
theorem dX3_weather_5 : decode cX3_weather 5 = .ok (.invokevirtual 72, 3) := by decide +kernel
theorem dX3_weather_8 : decode cX3_weather 8 = .ok (.ifCond .eq 23, 3) := by decide +kernel
theorem dX3_weather_11 : decode cX3_weather 11 = .ok (.iload_n 2, 1) := by decide +kernel
theorem dX3_weather_12 : decode cX3_weather 12 = .ok (.ifCond .lt 19, 3) := by decide +kernel
theorem dX3_weather_15 : decode cX3_weather 15 = .ok (.iload_n 2, 1) := by decide +kernel
theorem dX3_weather_16 : decode cX3_weather 16 = .ok (.aload_n 0, 1) := by decide +kernel
theorem dX3_weather_17 : decode cX3_weather 17 = .ok (.getfield 26, 3) := by decide +kernel
theorem dX3_weather_20 : decode cX3_weather 20 = .ok (.getfield 76, 3) := by decide +kernel
theorem dX3_weather_23 : decode cX3_weather 23 = .ok (.iload_n 1, 1) := by decide +kernel
theorem dX3_weather_24 : decode cX3_weather 24 = .ok (.aaload, 1) := by decide +kernel
theorem dX3_weather_25 : decode cX3_weather 25 = .ok (.getfield 104, 3) := by decide +kernel
theorem dX3_weather_28 : decode cX3_weather 28 = .ok (.if_icmp .lt 5, 3) := by decide +kernel
theorem dX3_weather_31 : decode cX3_weather 31 = .ok (.iconst (-1), 1) := by decide +kernel
theorem dX3_weather_32 : decode cX3_weather 32 = .ok (.ireturn, 1) := by decide +kernel
theorem dX3_weather_33 : decode cX3_weather 33 = .ok (.aload_n 0, 1) := by decide +kernel
theorem dX3_weather_34 : decode cX3_weather 34 = .ok (.getfield 26, 3) := by decide +kernel
theorem dX3_weather_37 : decode cX3_weather 37 = .ok (.getfield 76, 3) := by decide +kernel
theorem dX3_weather_40 : decode cX3_weather 40 = .ok (.iload_n 1, 1) := by decide +kernel
theorem dX3_weather_41 : decode cX3_weather 41 = .ok (.aaload, 1) := by decide +kernel
theorem dX3_weather_42 : decode cX3_weather 42 = .ok (.getfield 110, 3) := by decide +kernel
theorem dX3_weather_45 : decode cX3_weather 45 = .ok (.iload_n 2, 1) := by decide +kernel
theorem dX3_weather_46 : decode cX3_weather 46 = .ok (.iaload, 1) := by decide +kernel
theorem dX3_weather_47 : decode cX3_weather 47 = .ok (.ireturn, 1) := by decide +kernel
theorem dX3_cloud_0 : decode cX3_cloud 0 = .ok (.aload_n 0, 1) := by decide +kernel
theorem dX3_cloud_1 : decode cX3_cloud 1 = .ok (.getfield 26, 3) := by decide +kernel
theorem dX3_cloud_4 : decode cX3_cloud 4 = .ok (.iload_n 1, 1) := by decide +kernel
theorem dX3_cloud_5 : decode cX3_cloud 5 = .ok (.invokevirtual 72, 3) := by decide +kernel
theorem dX3_cloud_8 : decode cX3_cloud 8 = .ok (.ifCond .eq 23, 3) := by decide +kernel
theorem dX3_cloud_11 : decode cX3_cloud 11 = .ok (.iload_n 2, 1) := by decide +kernel
theorem dX3_cloud_12 : decode cX3_cloud 12 = .ok (.ifCond .lt 19, 3) := by decide +kernel
theorem dX3_cloud_15 : decode cX3_cloud 15 = .ok (.iload_n 2, 1) := by decide +kernel
theorem dX3_cloud_16 : decode cX3_cloud 16 = .ok (.aload_n 0, 1) := by decide +kernel
theorem dX3_cloud_17 : decode cX3_cloud 17 = .ok (.getfield 26, 3) := by decide +kernel
theorem dX3_cloud_20 : decode cX3_cloud 20 = .ok (.getfield 76, 3) := by decide +kernel
theorem dX3_cloud_23 : decode cX3_cloud 23 = .ok (.iload_n 1, 1) := by decide +kernel
theorem dX3_cloud_24 : decode cX3_cloud 24 = .ok (.aaload, 1) := by decide +kernel
theorem dX3_cloud_25 : decode cX3_cloud 25 = .ok (.getfield 107, 3) := by decide +kernel
theorem dX3_cloud_28 : decode cX3_cloud 28 = .ok (.if_icmp .lt 5, 3) := by decide +kernel
theorem dX3_cloud_31 : decode cX3_cloud 31 = .ok (.iconst (-1), 1) := by decide +kernel
theorem dX3_cloud_32 : decode cX3_cloud 32 = .ok (.ireturn, 1) := by decide +kernel
theorem dX3_cloud_33 : decode cX3_cloud 33 = .ok (.aload_n 0, 1) := by decide +kernel
theorem dX3_cloud_34 : decode cX3_cloud 34 = .ok (.getfield 26, 3) := by decide +kernel
theorem dX3_cloud_37 : decode cX3_cloud 37 = .ok (.getfield 76, 3) := by decide +kernel
theorem dX3_cloud_40 : decode cX3_cloud 40 = .ok (.iload_n 1, 1) := by decide +kernel
theorem dX3_cloud_41 : decode cX3_cloud 41 = .ok (.aaload, 1) := by decide +kernel
theorem dX3_cloud_42 : decode cX3_cloud 42 = .ok (.getfield 113, 3) := by decide +kernel
theorem dX3_cloud_45 : decode cX3_cloud 45 = .ok (.iload_n 2, 1) := by decide +kernel
theorem dX3_cloud_46 : decode cX3_cloud 46 = .ok (.iaload, 1) := by decide +kernel
theorem dX3_cloud_47 : decode cX3_cloud 47 = .ok (.ireturn, 1) := by decide +kernel
theorem dX3_from_0 : decode cX3_from 0 = .ok (.aload_n 0, 1) := by decide +kernel
theorem dX3_from_1 : decode cX3_from 1 = .ok (.getfield 26, 3) := by decide +kernel
theorem dX3_from_4 : decode cX3_from 4 = .ok (.iload_n 1, 1) := by decide +kernel
theorem dX3_from_5 : decode cX3_from 5 = .ok (.invokevirtual 116, 3) := by decide +kernel
theorem dX3_from_8 : decode cX3_from 8 = .ok (.ifCond .eq 12, 3) := by decide +kernel
theorem dX3_from_11 : decode cX3_from 11 = .ok (.iload_n 2, 1) := by decide +kernel
theorem dX3_from_12 : decode cX3_from 12 = .ok (.ifCond .lt 8, 3) := by decide +kernel
theorem dX3_from_15 : decode cX3_from 15 = .ok (.iload_n 2, 1) := by decide +kernel
theorem dX3_from_16 : decode cX3_from 16 = .ok (.iconst 4, 1) := by decide +kernel
theorem dX3_from_17 : decode cX3_from 17 = .ok (.if_icmp .lt 5, 3) := by decide +kernel
theorem dX3_from_20 : decode cX3_from 20 = .ok (.iconst (-1), 1) := by decide +kernel
theorem dX3_from_21 : decode cX3_from 21 = .ok (.ireturn, 1) := by decide +kernel
theorem dX3_from_22 : decode cX3_from 22 = .ok (.aload_n 0, 1) := by decide +kernel
theorem dX3_from_23 : decode cX3_from 23 = .ok (.getfield 26, 3) := by decide +kernel
theorem dX3_from_26 : decode cX3_from 26 = .ok (.iload_n 1, 1) := by decide +kernel
theorem dX3_from_27 : decode cX3_from 27 = .ok (.iload_n 2, 1) := by decide +kernel
theorem dX3_from_28 : decode cX3_from 28 = .ok (.invokevirtual 119, 3) := by decide +kernel
theorem dX3_from_31 : decode cX3_from 31 = .ok (.ireturn, 1) := by decide +kernel
theorem dX3_active_0 : decode cX3_active 0 = .ok (.aload_n 0, 1) := by decide +kernel
theorem dX3_active_1 : decode cX3_active 1 = .ok (.getfield 26, 3) := by decide +kernel
theorem dX3_active_4 : decode cX3_active 4 = .ok (.iload_n 1, 1) := by decide +kernel
theorem dX3_active_5 : decode cX3_active 5 = .ok (.invokevirtual 116, 3) := by decide +kernel
theorem dX3_active_8 : decode cX3_active 8 = .ok (.ifCond .eq 14, 3) := by decide +kernel
theorem dX3_active_11 : decode cX3_active 11 = .ok (.aload_n 0, 1) := by decide +kernel
theorem dX3_active_12 : decode cX3_active 12 = .ok (.getfield 26, 3) := by decide +kernel
theorem dX3_active_15 : decode cX3_active 15 = .ok (.iload_n 1, 1) := by decide +kernel
theorem dX3_active_16 : decode cX3_active 16 = .ok (.invokevirtual 123, 3) := by decide +kernel
theorem dX3_active_19 : decode cX3_active 19 = .ok (.goto 4, 3) := by decide +kernel
theorem dX3_active_22 : decode cX3_active 22 = .ok (.iconst (-1), 1) := by decide +kernel
theorem dX3_active_23 : decode cX3_active 23 = .ok (.ireturn, 1) := by decide +kernel
theorem dX3_activeOne_0 : decode cX3_activeOne 0 = .ok (.aload_n 0, 1) := by decide +kernel
theorem dX3_activeOne_1 : decode cX3_activeOne 1 = .ok (.getfield 26, 3) := by decide +kernel
theorem dX3_activeOne_4 : decode cX3_activeOne 4 = .ok (.iload_n 1, 1) := by decide +kernel
theorem dX3_activeOne_5 : decode cX3_activeOne 5 = .ok (.invokevirtual 116, 3) := by decide +kernel
theorem dX3_activeOne_8 : decode cX3_activeOne 8 = .ok (.ifCond .eq 15, 3) := by decide +kernel
theorem dX3_activeOne_11 : decode cX3_activeOne 11 = .ok (.aload_n 0, 1) := by decide +kernel
theorem dX3_activeOne_12 : decode cX3_activeOne 12 = .ok (.getfield 26, 3) := by decide +kernel
theorem dX3_activeOne_15 : decode cX3_activeOne 15 = .ok (.iload_n 1, 1) := by decide +kernel
theorem dX3_activeOne_16 : decode cX3_activeOne 16 = .ok (.iload_n 2, 1) := by decide +kernel
theorem dX3_activeOne_17 : decode cX3_activeOne 17 = .ok (.invokevirtual 127, 3) := by decide +kernel
theorem dX3_activeOne_20 : decode cX3_activeOne 20 = .ok (.goto 4, 3) := by decide +kernel
theorem dX3_activeOne_23 : decode cX3_activeOne 23 = .ok (.iconst (-1), 1) := by decide +kernel
theorem dX3_activeOne_24 : decode cX3_activeOne 24 = .ok (.ireturn, 1) := by decide +kernel
theorem dX3_least_0 : decode cX3_least 0 = .ok (.aload_n 0, 1) := by decide +kernel
theorem dX3_least_1 : decode cX3_least 1 = .ok (.getfield 26, 3) := by decide +kernel
theorem dX3_least_4 : decode cX3_least 4 = .ok (.iload_n 1, 1) := by decide +kernel
theorem dX3_least_5 : decode cX3_least 5 = .ok (.invokevirtual 116, 3) := by decide +kernel
theorem dX3_least_8 : decode cX3_least 8 = .ok (.ifCond .eq 14, 3) := by decide +kernel
theorem dX3_least_11 : decode cX3_least 11 = .ok (.aload_n 0, 1) := by decide +kernel
theorem dX3_least_12 : decode cX3_least 12 = .ok (.getfield 26, 3) := by decide +kernel
theorem dX3_least_15 : decode cX3_least 15 = .ok (.iload_n 1, 1) := by decide +kernel
theorem dX3_least_16 : decode cX3_least 16 = .ok (.invokevirtual 130, 3) := by decide +kernel
theorem dX3_least_19 : decode cX3_least 19 = .ok (.goto 4, 3) := by decide +kernel
theorem dX3_least_22 : decode cX3_least 22 = .ok (.iconst (-1), 1) := by decide +kernel
theorem dX3_least_23 : decode cX3_least 23 = .ok (.ireturn, 1) := by decide +kernel
theorem dX3_ceiling_0 : decode cX3_ceiling 0 = .ok (.aload_n 0, 1) := by decide +kernel
theorem dX3_ceiling_1 : decode cX3_ceiling 1 = .ok (.getfield 26, 3) := by decide +kernel
theorem dX3_ceiling_4 : decode cX3_ceiling 4 = .ok (.iload_n 1, 1) := by decide +kernel
theorem dX3_ceiling_5 : decode cX3_ceiling 5 = .ok (.invokevirtual 116, 3) := by decide +kernel
theorem dX3_ceiling_8 : decode cX3_ceiling 8 = .ok (.ifCond .eq 12, 3) := by decide +kernel
theorem dX3_ceiling_11 : decode cX3_ceiling 11 = .ok (.iload_n 2, 1) := by decide +kernel
theorem dX3_ceiling_12 : decode cX3_ceiling 12 = .ok (.ifCond .lt 8, 3) := by decide +kernel
theorem dX3_ceiling_15 : decode cX3_ceiling 15 = .ok (.iload_n 2, 1) := by decide +kernel
theorem dX3_ceiling_16 : decode cX3_ceiling 16 = .ok (.iconst 1, 1) := by decide +kernel
theorem dX3_ceiling_17 : decode cX3_ceiling 17 = .ok (.if_icmp .le 5, 3) := by decide +kernel
theorem dX3_ceiling_20 : decode cX3_ceiling 20 = .ok (.iconst (-1), 1) := by decide +kernel
theorem dX3_ceiling_21 : decode cX3_ceiling 21 = .ok (.ireturn, 1) := by decide +kernel
theorem dX3_ceiling_22 : decode cX3_ceiling 22 = .ok (.aload_n 0, 1) := by decide +kernel
theorem dX3_ceiling_23 : decode cX3_ceiling 23 = .ok (.getfield 26, 3) := by decide +kernel
theorem dX3_ceiling_26 : decode cX3_ceiling 26 = .ok (.iload_n 1, 1) := by decide +kernel
theorem dX3_ceiling_27 : decode cX3_ceiling 27 = .ok (.iload_n 2, 1) := by decide +kernel
theorem dX3_ceiling_28 : decode cX3_ceiling 28 = .ok (.iconst 1, 1) := by decide +kernel
theorem dX3_ceiling_29 : decode cX3_ceiling 29 = .ok (.if_icmp .ne 7, 3) := by decide +kernel
theorem dX3_ceiling_32 : decode cX3_ceiling 32 = .ok (.iconst 1, 1) := by decide +kernel
theorem dX3_ceiling_33 : decode cX3_ceiling 33 = .ok (.goto 4, 3) := by decide +kernel
theorem dX3_ceiling_36 : decode cX3_ceiling 36 = .ok (.iconst 0, 1) := by decide +kernel
theorem dX3_ceiling_37 : decode cX3_ceiling 37 = .ok (.invokevirtual 133, 3) := by decide +kernel
theorem dX3_ceiling_40 : decode cX3_ceiling 40 = .ok (.ireturn, 1) := by decide +kernel
theorem dX3_next_0 : decode cX3_next 0 = .ok (.aload_n 0, 1) := by decide +kernel
theorem dX3_next_1 : decode cX3_next 1 = .ok (.getfield 26, 3) := by decide +kernel
theorem dX3_next_4 : decode cX3_next 4 = .ok (.iload_n 1, 1) := by decide +kernel
theorem dX3_next_5 : decode cX3_next 5 = .ok (.invokevirtual 116, 3) := by decide +kernel
theorem dX3_next_8 : decode cX3_next 8 = .ok (.ifCond .eq 14, 3) := by decide +kernel
theorem dX3_next_11 : decode cX3_next 11 = .ok (.aload_n 0, 1) := by decide +kernel
theorem dX3_next_12 : decode cX3_next 12 = .ok (.getfield 26, 3) := by decide +kernel
theorem dX3_next_15 : decode cX3_next 15 = .ok (.iload_n 1, 1) := by decide +kernel
theorem dX3_next_16 : decode cX3_next 16 = .ok (.invokevirtual 137, 3) := by decide +kernel
theorem dX3_next_19 : decode cX3_next 19 = .ok (.goto 4, 3) := by decide +kernel
theorem dX3_next_22 : decode cX3_next 22 = .ok (.iconst (-1), 1) := by decide +kernel
theorem dX3_next_23 : decode cX3_next 23 = .ok (.ireturn, 1) := by decide +kernel
theorem dX3_print_0 : decode cX3_print 0 = .ok (.iconst 0, 1) := by decide +kernel
theorem dX3_print_1 : decode cX3_print 1 = .ok (.istore_n 1, 1) := by decide +kernel
theorem dX3_print_2 : decode cX3_print 2 = .ok (.iload_n 1, 1) := by decide +kernel
theorem dX3_print_3 : decode cX3_print 3 = .ok (.aload_n 0, 1) := by decide +kernel
theorem dX3_print_4 : decode cX3_print 4 = .ok (.getfield 26, 3) := by decide +kernel
theorem dX3_print_7 : decode cX3_print 7 = .ok (.getfield 140, 3) := by decide +kernel
theorem dX3_print_10 : decode cX3_print 10 = .ok (.if_icmp .ge 24, 3) := by decide +kernel
theorem dX3_print_13 : decode cX3_print 13 = .ok (.aload_n 0, 1) := by decide +kernel
theorem dX3_print_14 : decode cX3_print 14 = .ok (.getfield 17, 3) := by decide +kernel
theorem dX3_print_17 : decode cX3_print 17 = .ok (.iload_n 1, 1) := by decide +kernel
theorem dX3_print_18 : decode cX3_print 18 = .ok (.aload_n 0, 1) := by decide +kernel
theorem dX3_print_19 : decode cX3_print 19 = .ok (.getfield 26, 3) := by decide +kernel
theorem dX3_print_22 : decode cX3_print 22 = .ok (.getfield 143, 3) := by decide +kernel
theorem dX3_print_25 : decode cX3_print 25 = .ok (.iload_n 1, 1) := by decide +kernel
theorem dX3_print_26 : decode cX3_print 26 = .ok (.caload, 1) := by decide +kernel
theorem dX3_print_27 : decode cX3_print 27 = .ok (.castore, 1) := by decide +kernel
theorem dX3_print_28 : decode cX3_print 28 = .ok (.iinc 1 1, 3) := by decide +kernel
theorem dX3_print_31 : decode cX3_print 31 = .ok (.goto (-29), 3) := by decide +kernel
theorem dX3_print_34 : decode cX3_print 34 = .ok (.aload_n 0, 1) := by decide +kernel
theorem dX3_print_35 : decode cX3_print 35 = .ok (.aload_n 0, 1) := by decide +kernel
theorem dX3_print_36 : decode cX3_print 36 = .ok (.getfield 26, 3) := by decide +kernel
theorem dX3_print_39 : decode cX3_print 39 = .ok (.getfield 140, 3) := by decide +kernel
theorem dX3_print_42 : decode cX3_print 42 = .ok (.putfield 20, 3) := by decide +kernel
theorem dX3_print_45 : decode cX3_print 45 = .ok (.aload_n 0, 1) := by decide +kernel
theorem dX3_print_46 : decode cX3_print 46 = .ok (.getfield 20, 3) := by decide +kernel
theorem dX3_print_49 : decode cX3_print 49 = .ok (.ireturn, 1) := by decide +kernel
theorem dX3_character_0 : decode cX3_character 0 = .ok (.iload_n 1, 1) := by decide +kernel
theorem dX3_character_1 : decode cX3_character 1 = .ok (.ifCond .lt 20, 3) := by decide +kernel
theorem dX3_character_4 : decode cX3_character 4 = .ok (.iload_n 1, 1) := by decide +kernel
theorem dX3_character_5 : decode cX3_character 5 = .ok (.aload_n 0, 1) := by decide +kernel
theorem dX3_character_6 : decode cX3_character 6 = .ok (.getfield 20, 3) := by decide +kernel
theorem dX3_character_9 : decode cX3_character 9 = .ok (.if_icmp .ge 12, 3) := by decide +kernel
theorem dX3_character_12 : decode cX3_character 12 = .ok (.aload_n 0, 1) := by decide +kernel
theorem dX3_character_13 : decode cX3_character 13 = .ok (.getfield 17, 3) := by decide +kernel
theorem dX3_character_16 : decode cX3_character 16 = .ok (.iload_n 1, 1) := by decide +kernel
theorem dX3_character_17 : decode cX3_character 17 = .ok (.caload, 1) := by decide +kernel
theorem dX3_character_18 : decode cX3_character 18 = .ok (.goto 4, 3) := by decide +kernel
theorem dX3_character_21 : decode cX3_character 21 = .ok (.iconst (-1), 1) := by decide +kernel
theorem dX3_character_22 : decode cX3_character 22 = .ok (.ireturn, 1) := by decide +kernel
theorem dX3_check_0 : decode cX3_check 0 = .ok (.aload_n 0, 1) := by decide +kernel
theorem dX3_check_1 : decode cX3_check 1 = .ok (.getfield 26, 3) := by decide +kernel
theorem dX3_check_4 : decode cX3_check 4 = .ok (.getfield 50, 3) := by decide +kernel
theorem dX3_check_7 : decode cX3_check 7 = .ok (.ifCond .ne 5, 3) := by decide +kernel
theorem dX3_check_10 : decode cX3_check 10 = .ok (.iconst 1, 1) := by decide +kernel
theorem dX3_check_11 : decode cX3_check 11 = .ok (.ireturn, 1) := by decide +kernel
theorem dX3_check_12 : decode cX3_check 12 = .ok (.aload_n 0, 1) := by decide +kernel
theorem dX3_check_13 : decode cX3_check 13 = .ok (.getfield 38, 3) := by decide +kernel
theorem dX3_check_16 : decode cX3_check 16 = .ok (.aload_n 0, 1) := by decide +kernel
theorem dX3_check_17 : decode cX3_check 17 = .ok (.getfield 26, 3) := by decide +kernel
theorem dX3_check_20 : decode cX3_check 20 = .ok (.getfield 143, 3) := by decide +kernel
theorem dX3_check_23 : decode cX3_check 23 = .ok (.aload_n 0, 1) := by decide +kernel
theorem dX3_check_24 : decode cX3_check 24 = .ok (.getfield 26, 3) := by decide +kernel
theorem dX3_check_27 : decode cX3_check 27 = .ok (.getfield 140, 3) := by decide +kernel
theorem dX3_check_30 : decode cX3_check 30 = .ok (.aload_n 0, 1) := by decide +kernel
theorem dX3_check_31 : decode cX3_check 31 = .ok (.getfield 26, 3) := by decide +kernel
theorem dX3_check_34 : decode cX3_check 34 = .ok (.getfield 146, 3) := by decide +kernel
theorem dX3_check_37 : decode cX3_check 37 = .ok (.aload_n 0, 1) := by decide +kernel
theorem dX3_check_38 : decode cX3_check 38 = .ok (.getfield 30, 3) := by decide +kernel
theorem dX3_check_41 : decode cX3_check 41 = .ok (.invokevirtual 46, 3) := by decide +kernel
theorem dX3_check_44 : decode cX3_check 44 = .ok (.istore_n 1, 1) := by decide +kernel
theorem dX3_check_45 : decode cX3_check 45 = .ok (.iload_n 1, 1) := by decide +kernel
theorem dX3_check_46 : decode cX3_check 46 = .ok (.ifCond .ne 31, 3) := by decide +kernel
theorem dX3_check_49 : decode cX3_check 49 = .ok (.aload_n 0, 1) := by decide +kernel
theorem dX3_check_50 : decode cX3_check 50 = .ok (.getfield 26, 3) := by decide +kernel
theorem dX3_check_53 : decode cX3_check 53 = .ok (.aload_n 0, 1) := by decide +kernel
theorem dX3_check_54 : decode cX3_check 54 = .ok (.getfield 30, 3) := by decide +kernel
theorem dX3_check_57 : decode cX3_check 57 = .ok (.invokevirtual 149, 3) := by decide +kernel
theorem dX3_check_60 : decode cX3_check 60 = .ok (.ifCond .eq 17, 3) := by decide +kernel
theorem dX3_check_63 : decode cX3_check 63 = .ok (.aload_n 0, 1) := by decide +kernel
theorem dX3_check_64 : decode cX3_check 64 = .ok (.getfield 26, 3) := by decide +kernel
theorem dX3_check_67 : decode cX3_check 67 = .ok (.invokevirtual 153, 3) := by decide +kernel
theorem dX3_check_70 : decode cX3_check 70 = .ok (.ifCond .eq 7, 3) := by decide +kernel
theorem dX3_check_73 : decode cX3_check 73 = .ok (.iconst 1, 1) := by decide +kernel
theorem dX3_check_74 : decode cX3_check 74 = .ok (.goto 4, 3) := by decide +kernel
theorem dX3_check_77 : decode cX3_check 77 = .ok (.iconst 0, 1) := by decide +kernel
theorem dX3_check_78 : decode cX3_check 78 = .ok (.ireturn, 1) := by decide +kernel
theorem dX3_byteOf_0 : decode cX3_byteOf 0 = .ok (.lload_n 0, 1) := by decide +kernel
theorem dX3_byteOf_1 : decode cX3_byteOf 1 = .ok (.bipush 8, 2) := by decide +kernel
theorem dX3_byteOf_3 : decode cX3_byteOf 3 = .ok (.iload_n 2, 1) := by decide +kernel
theorem dX3_byteOf_4 : decode cX3_byteOf 4 = .ok (.imul, 1) := by decide +kernel
theorem dX3_byteOf_5 : decode cX3_byteOf 5 = .ok (.lshr, 1) := by decide +kernel
theorem dX3_byteOf_6 : decode cX3_byteOf 6 = .ok (.l2i, 1) := by decide +kernel
theorem dX3_byteOf_7 : decode cX3_byteOf 7 = .ok (.sipush 255, 3) := by decide +kernel
theorem dX3_byteOf_10 : decode cX3_byteOf 10 = .ok (.iand, 1) := by decide +kernel
theorem dX3_byteOf_11 : decode cX3_byteOf 11 = .ok (.ireturn, 1) := by decide +kernel
theorem dJ0_length_8abf5_0 : decode cJ0_length_8abf5 0 = .ok (.aload_n 0, 1) := by decide +kernel
theorem dJ0_length_8abf5_1 : decode cJ0_length_8abf5 1 = .ok (.getfield 9, 3) := by decide +kernel
theorem dJ0_length_8abf5_4 : decode cJ0_length_8abf5 4 = .ok (.arraylength, 1) := by decide +kernel
theorem dJ0_length_8abf5_5 : decode cJ0_length_8abf5 5 = .ok (.aload_n 0, 1) := by decide +kernel
theorem dJ0_length_8abf5_6 : decode cJ0_length_8abf5 6 = .ok (.invokevirtual 335, 3) := by decide +kernel
theorem dJ0_length_8abf5_9 : decode cJ0_length_8abf5 9 = .ok (.ishr, 1) := by decide +kernel
theorem dJ0_length_8abf5_10 : decode cJ0_length_8abf5 10 = .ok (.ireturn, 1) := by decide +kernel
theorem dJ0_charAt_5068e_0 : decode cJ0_charAt_5068e 0 = .ok (.aload_n 0, 1) := by decide +kernel
theorem dJ0_charAt_5068e_1 : decode cJ0_charAt_5068e 1 = .ok (.invokevirtual 492, 3) := by decide +kernel
theorem dJ0_charAt_5068e_4 : decode cJ0_charAt_5068e 4 = .ok (.ifCond .eq 12, 3) := by decide +kernel
theorem dJ0_charAt_5068e_7 : decode cJ0_charAt_5068e 7 = .ok (.aload_n 0, 1) := by decide +kernel
theorem dJ0_charAt_5068e_8 : decode cJ0_charAt_5068e 8 = .ok (.getfield 9, 3) := by decide +kernel
theorem dJ0_charAt_5068e_11 : decode cJ0_charAt_5068e 11 = .ok (.iload_n 1, 1) := by decide +kernel
theorem dJ0_charAt_5068e_12 : decode cJ0_charAt_5068e 12 = .ok (.invokestatic 495, 3) := by decide +kernel
theorem dJ0_charAt_5068e_15 : decode cJ0_charAt_5068e 15 = .ok (.ireturn, 1) := by decide +kernel
theorem dJ0_charAt_5068e_16 : decode cJ0_charAt_5068e 16 = .ok (.aload_n 0, 1) := by decide +kernel
theorem dJ0_charAt_5068e_17 : decode cJ0_charAt_5068e 17 = .ok (.getfield 9, 3) := by decide +kernel
theorem dJ0_charAt_5068e_20 : decode cJ0_charAt_5068e 20 = .ok (.iload_n 1, 1) := by decide +kernel
theorem dJ0_charAt_5068e_21 : decode cJ0_charAt_5068e 21 = .ok (.invokestatic 498, 3) := by decide +kernel
theorem dJ0_charAt_5068e_24 : decode cJ0_charAt_5068e 24 = .ok (.ireturn, 1) := by decide +kernel
theorem dJ0_coder_7d493_0 : decode cJ0_coder_7d493 0 = .ok (.getstatic 38, 3) := by decide +kernel
theorem dJ0_coder_7d493_3 : decode cJ0_coder_7d493 3 = .ok (.ifCond .eq 10, 3) := by decide +kernel
theorem dJ0_coder_7d493_6 : decode cJ0_coder_7d493 6 = .ok (.aload_n 0, 1) := by decide +kernel
theorem dJ0_coder_7d493_7 : decode cJ0_coder_7d493 7 = .ok (.getfield 15, 3) := by decide +kernel
theorem dJ0_coder_7d493_10 : decode cJ0_coder_7d493 10 = .ok (.goto 4, 3) := by decide +kernel
theorem dJ0_coder_7d493_13 : decode cJ0_coder_7d493 13 = .ok (.iconst 1, 1) := by decide +kernel
theorem dJ0_coder_7d493_14 : decode cJ0_coder_7d493 14 = .ok (.ireturn, 1) := by decide +kernel
theorem dJ0_isLatin1_aae02_0 : decode cJ0_isLatin1_aae02 0 = .ok (.getstatic 38, 3) := by decide +kernel
theorem dJ0_isLatin1_aae02_3 : decode cJ0_isLatin1_aae02 3 = .ok (.ifCond .eq 14, 3) := by decide +kernel
theorem dJ0_isLatin1_aae02_6 : decode cJ0_isLatin1_aae02 6 = .ok (.aload_n 0, 1) := by decide +kernel
theorem dJ0_isLatin1_aae02_7 : decode cJ0_isLatin1_aae02 7 = .ok (.getfield 15, 3) := by decide +kernel
theorem dJ0_isLatin1_aae02_10 : decode cJ0_isLatin1_aae02 10 = .ok (.ifCond .ne 7, 3) := by decide +kernel
theorem dJ0_isLatin1_aae02_13 : decode cJ0_isLatin1_aae02 13 = .ok (.iconst 1, 1) := by decide +kernel
theorem dJ0_isLatin1_aae02_14 : decode cJ0_isLatin1_aae02 14 = .ok (.goto 4, 3) := by decide +kernel
theorem dJ0_isLatin1_aae02_17 : decode cJ0_isLatin1_aae02 17 = .ok (.iconst 0, 1) := by decide +kernel
theorem dJ0_isLatin1_aae02_18 : decode cJ0_isLatin1_aae02 18 = .ok (.ireturn, 1) := by decide +kernel
theorem dJ0_checkIndex_df160_0 : decode cJ0_checkIndex_df160 0 = .ok (.iload_n 0, 1) := by decide +kernel
theorem dJ0_checkIndex_df160_1 : decode cJ0_checkIndex_df160 1 = .ok (.iload_n 1, 1) := by decide +kernel
theorem dJ0_checkIndex_df160_2 : decode cJ0_checkIndex_df160 2 = .ok (.getstatic 1053, 3) := by decide +kernel
theorem dJ0_checkIndex_df160_5 : decode cJ0_checkIndex_df160 5 = .ok (.invokestatic 1059, 3) := by decide +kernel
theorem dJ0_checkIndex_df160_8 : decode cJ0_checkIndex_df160 8 = .ok (.pop, 1) := by decide +kernel
theorem dJ0_checkIndex_df160_9 : decode cJ0_checkIndex_df160 9 = .ok (.return_, 1) := by decide +kernel
theorem dJ1_charAt_3b067_0 : decode cJ1_charAt_3b067 0 = .ok (.iload_n 1, 1) := by decide +kernel
theorem dJ1_charAt_3b067_1 : decode cJ1_charAt_3b067 1 = .ok (.aload_n 0, 1) := by decide +kernel
theorem dJ1_charAt_3b067_2 : decode cJ1_charAt_3b067 2 = .ok (.arraylength, 1) := by decide +kernel
theorem dJ1_charAt_3b067_3 : decode cJ1_charAt_3b067 3 = .ok (.invokestatic 9, 3) := by decide +kernel
theorem dJ1_charAt_3b067_6 : decode cJ1_charAt_3b067 6 = .ok (.aload_n 0, 1) := by decide +kernel
theorem dJ1_charAt_3b067_7 : decode cJ1_charAt_3b067 7 = .ok (.iload_n 1, 1) := by decide +kernel
theorem dJ1_charAt_3b067_8 : decode cJ1_charAt_3b067 8 = .ok (.baload, 1) := by decide +kernel
theorem dJ1_charAt_3b067_9 : decode cJ1_charAt_3b067 9 = .ok (.sipush 255, 3) := by decide +kernel
theorem dJ1_charAt_3b067_12 : decode cJ1_charAt_3b067 12 = .ok (.iand, 1) := by decide +kernel
theorem dJ1_charAt_3b067_13 : decode cJ1_charAt_3b067 13 = .ok (.i2c, 1) := by decide +kernel
theorem dJ1_charAt_3b067_14 : decode cJ1_charAt_3b067 14 = .ok (.ireturn, 1) := by decide +kernel
theorem dJ2_getChar_3b067_0 : decode cJ2_getChar_3b067 0 = .ok (.getstatic 44, 3) := by decide +kernel
theorem dJ2_getChar_3b067_3 : decode cJ2_getChar_3b067 3 = .ok (.ifCond .ne 25, 3) := by decide +kernel
theorem dJ2_getChar_3b067_6 : decode cJ2_getChar_3b067 6 = .ok (.iload_n 1, 1) := by decide +kernel
theorem dJ2_getChar_3b067_7 : decode cJ2_getChar_3b067 7 = .ok (.ifCond .lt 11, 3) := by decide +kernel
theorem dJ2_getChar_3b067_10 : decode cJ2_getChar_3b067 10 = .ok (.iload_n 1, 1) := by decide +kernel
theorem dJ2_getChar_3b067_11 : decode cJ2_getChar_3b067 11 = .ok (.aload_n 0, 1) := by decide +kernel
theorem dJ2_getChar_3b067_12 : decode cJ2_getChar_3b067 12 = .ok (.invokestatic 48, 3) := by decide +kernel
theorem dJ2_getChar_3b067_15 : decode cJ2_getChar_3b067 15 = .ok (.if_icmp .lt 13, 3) := by decide +kernel
theorem dJ2_getChar_3b067_18 : decode cJ2_getChar_3b067 18 = .ok (.new 52, 3) := by decide +kernel
theorem dJ2_getChar_3b067_21 : decode cJ2_getChar_3b067 21 = .ok (.dup, 1) := by decide +kernel
theorem dJ2_getChar_3b067_22 : decode cJ2_getChar_3b067 22 = .ok (.ldc 54, 2) := by decide +kernel
theorem dJ2_getChar_3b067_24 : decode cJ2_getChar_3b067 24 = .ok (.invokespecial 56, 3) := by decide +kernel
theorem dJ2_getChar_3b067_27 : decode cJ2_getChar_3b067 27 = .ok (.athrow, 1) := by decide +kernel
theorem dJ2_getChar_3b067_28 : decode cJ2_getChar_3b067 28 = .ok (.iload_n 1, 1) := by decide +kernel
theorem dJ2_getChar_3b067_29 : decode cJ2_getChar_3b067 29 = .ok (.iconst 1, 1) := by decide +kernel
theorem dJ2_getChar_3b067_30 : decode cJ2_getChar_3b067 30 = .ok (.ishl, 1) := by decide +kernel
theorem dJ2_getChar_3b067_31 : decode cJ2_getChar_3b067 31 = .ok (.istore_n 1, 1) := by decide +kernel
theorem dJ2_getChar_3b067_32 : decode cJ2_getChar_3b067 32 = .ok (.aload_n 0, 1) := by decide +kernel
theorem dJ2_getChar_3b067_33 : decode cJ2_getChar_3b067 33 = .ok (.iload_n 1, 1) := by decide +kernel
theorem dJ2_getChar_3b067_34 : decode cJ2_getChar_3b067 34 = .ok (.iinc 1 1, 3) := by decide +kernel
theorem dJ2_getChar_3b067_37 : decode cJ2_getChar_3b067 37 = .ok (.baload, 1) := by decide +kernel
theorem dJ2_getChar_3b067_38 : decode cJ2_getChar_3b067 38 = .ok (.sipush 255, 3) := by decide +kernel
theorem dJ2_getChar_3b067_41 : decode cJ2_getChar_3b067 41 = .ok (.iand, 1) := by decide +kernel
theorem dJ2_getChar_3b067_42 : decode cJ2_getChar_3b067 42 = .ok (.getstatic 59, 3) := by decide +kernel
theorem dJ2_getChar_3b067_45 : decode cJ2_getChar_3b067 45 = .ok (.ishl, 1) := by decide +kernel
theorem dJ2_getChar_3b067_46 : decode cJ2_getChar_3b067 46 = .ok (.aload_n 0, 1) := by decide +kernel
theorem dJ2_getChar_3b067_47 : decode cJ2_getChar_3b067 47 = .ok (.iload_n 1, 1) := by decide +kernel
theorem dJ2_getChar_3b067_48 : decode cJ2_getChar_3b067 48 = .ok (.baload, 1) := by decide +kernel
theorem dJ2_getChar_3b067_49 : decode cJ2_getChar_3b067 49 = .ok (.sipush 255, 3) := by decide +kernel
theorem dJ2_getChar_3b067_52 : decode cJ2_getChar_3b067 52 = .ok (.iand, 1) := by decide +kernel
theorem dJ2_getChar_3b067_53 : decode cJ2_getChar_3b067 53 = .ok (.getstatic 63, 3) := by decide +kernel
theorem dJ2_getChar_3b067_56 : decode cJ2_getChar_3b067 56 = .ok (.ishl, 1) := by decide +kernel
theorem dJ2_getChar_3b067_57 : decode cJ2_getChar_3b067 57 = .ok (.ior, 1) := by decide +kernel
theorem dJ2_getChar_3b067_58 : decode cJ2_getChar_3b067 58 = .ok (.i2c, 1) := by decide +kernel
theorem dJ2_getChar_3b067_59 : decode cJ2_getChar_3b067 59 = .ok (.ireturn, 1) := by decide +kernel
theorem dJ2_length_9d52b_0 : decode cJ2_length_9d52b 0 = .ok (.aload_n 0, 1) := by decide +kernel
theorem dJ2_length_9d52b_1 : decode cJ2_length_9d52b 1 = .ok (.arraylength, 1) := by decide +kernel
theorem dJ2_length_9d52b_2 : decode cJ2_length_9d52b 2 = .ok (.iconst 1, 1) := by decide +kernel
theorem dJ2_length_9d52b_3 : decode cJ2_length_9d52b 3 = .ok (.ishr, 1) := by decide +kernel
theorem dJ2_length_9d52b_4 : decode cJ2_length_9d52b 4 = .ok (.ireturn, 1) := by decide +kernel
theorem dJ2_charAt_3b067_0 : decode cJ2_charAt_3b067 0 = .ok (.iload_n 1, 1) := by decide +kernel
theorem dJ2_charAt_3b067_1 : decode cJ2_charAt_3b067 1 = .ok (.aload_n 0, 1) := by decide +kernel
theorem dJ2_charAt_3b067_2 : decode cJ2_charAt_3b067 2 = .ok (.invokestatic 67, 3) := by decide +kernel
theorem dJ2_charAt_3b067_5 : decode cJ2_charAt_3b067 5 = .ok (.aload_n 0, 1) := by decide +kernel
theorem dJ2_charAt_3b067_6 : decode cJ2_charAt_3b067 6 = .ok (.iload_n 1, 1) := by decide +kernel
theorem dJ2_charAt_3b067_7 : decode cJ2_charAt_3b067 7 = .ok (.invokestatic 71, 3) := by decide +kernel
theorem dJ2_charAt_3b067_10 : decode cJ2_charAt_3b067 10 = .ok (.ireturn, 1) := by decide +kernel
theorem dJ2_checkIndex_2214a_0 : decode cJ2_checkIndex_2214a 0 = .ok (.iload_n 0, 1) := by decide +kernel
theorem dJ2_checkIndex_2214a_1 : decode cJ2_checkIndex_2214a 1 = .ok (.aload_n 1, 1) := by decide +kernel
theorem dJ2_checkIndex_2214a_2 : decode cJ2_checkIndex_2214a 2 = .ok (.invokestatic 48, 3) := by decide +kernel
theorem dJ2_checkIndex_2214a_5 : decode cJ2_checkIndex_2214a 5 = .ok (.invokestatic 414, 3) := by decide +kernel
theorem dJ2_checkIndex_2214a_8 : decode cJ2_checkIndex_2214a 8 = .ok (.return_, 1) := by decide +kernel
theorem dJ3_checkIndex_8e157_0 : decode cJ3_checkIndex_8e157 0 = .ok (.iload_n 0, 1) := by decide +kernel
theorem dJ3_checkIndex_8e157_1 : decode cJ3_checkIndex_8e157 1 = .ok (.ifCond .lt 8, 3) := by decide +kernel
theorem dJ3_checkIndex_8e157_4 : decode cJ3_checkIndex_8e157 4 = .ok (.iload_n 0, 1) := by decide +kernel
theorem dJ3_checkIndex_8e157_5 : decode cJ3_checkIndex_8e157 5 = .ok (.iload_n 1, 1) := by decide +kernel
theorem dJ3_checkIndex_8e157_6 : decode cJ3_checkIndex_8e157 6 = .ok (.if_icmp .lt 10, 3) := by decide +kernel
theorem dJ3_checkIndex_8e157_9 : decode cJ3_checkIndex_8e157 9 = .ok (.aload_n 2, 1) := by decide +kernel
theorem dJ3_checkIndex_8e157_10 : decode cJ3_checkIndex_8e157 10 = .ok (.iload_n 0, 1) := by decide +kernel
theorem dJ3_checkIndex_8e157_11 : decode cJ3_checkIndex_8e157 11 = .ok (.iload_n 1, 1) := by decide +kernel
theorem dJ3_checkIndex_8e157_12 : decode cJ3_checkIndex_8e157 12 = .ok (.invokestatic 95, 3) := by decide +kernel
theorem dJ3_checkIndex_8e157_15 : decode cJ3_checkIndex_8e157 15 = .ok (.athrow, 1) := by decide +kernel
theorem dJ3_checkIndex_8e157_16 : decode cJ3_checkIndex_8e157 16 = .ok (.iload_n 0, 1) := by decide +kernel
theorem dJ3_checkIndex_8e157_17 : decode cJ3_checkIndex_8e157 17 = .ok (.ireturn, 1) := by decide +kernel
theorem dJ9_max_7cf53_0 : decode cJ9_max_7cf53 0 = .ok (.iload_n 0, 1) := by decide +kernel
theorem dJ9_max_7cf53_1 : decode cJ9_max_7cf53 1 = .ok (.iload_n 1, 1) := by decide +kernel
theorem dJ9_max_7cf53_2 : decode cJ9_max_7cf53 2 = .ok (.if_icmp .lt 7, 3) := by decide +kernel
theorem dJ9_max_7cf53_5 : decode cJ9_max_7cf53 5 = .ok (.iload_n 0, 1) := by decide +kernel
theorem dJ9_max_7cf53_6 : decode cJ9_max_7cf53 6 = .ok (.goto 4, 3) := by decide +kernel
theorem dJ9_max_7cf53_9 : decode cJ9_max_7cf53 9 = .ok (.iload_n 1, 1) := by decide +kernel
theorem dJ9_max_7cf53_10 : decode cJ9_max_7cf53 10 = .ok (.ireturn, 1) := by decide +kernel
theorem dJ9_min_7cf53_0 : decode cJ9_min_7cf53 0 = .ok (.iload_n 0, 1) := by decide +kernel
theorem dJ9_min_7cf53_1 : decode cJ9_min_7cf53 1 = .ok (.iload_n 1, 1) := by decide +kernel
theorem dJ9_min_7cf53_2 : decode cJ9_min_7cf53 2 = .ok (.if_icmp .gt 7, 3) := by decide +kernel
theorem dJ9_min_7cf53_5 : decode cJ9_min_7cf53 5 = .ok (.iload_n 0, 1) := by decide +kernel
theorem dJ9_min_7cf53_6 : decode cJ9_min_7cf53 6 = .ok (.goto 4, 3) := by decide +kernel
theorem dJ9_min_7cf53_9 : decode cJ9_min_7cf53 9 = .ok (.iload_n 1, 1) := by decide +kernel
theorem dJ9_min_7cf53_10 : decode cJ9_min_7cf53 10 = .ok (.ireturn, 1) := by decide +kernel
end
section
theorem dX2_init_0 : decode cX2_init 0 = .ok (.aload_n 0, 1) := by decide +kernel
theorem dX2_init_1 : decode cX2_init 1 = .ok (.invokespecial 3, 3) := by decide +kernel
theorem dX2_init_4 : decode cX2_init 4 = .ok (.aload_n 0, 1) := by decide +kernel
theorem dX2_init_5 : decode cX2_init 5 = .ok (.iconst 0, 1) := by decide +kernel
theorem dX2_init_6 : decode cX2_init 6 = .ok (.putfield 9, 3) := by decide +kernel
theorem dX2_init_9 : decode cX2_init 9 = .ok (.aload_n 0, 1) := by decide +kernel
theorem dX2_init_10 : decode cX2_init 10 = .ok (.iconst 0, 1) := by decide +kernel
theorem dX2_init_11 : decode cX2_init 11 = .ok (.putfield 15, 3) := by decide +kernel
theorem dX2_init_14 : decode cX2_init 14 = .ok (.aload_n 0, 1) := by decide +kernel
theorem dX2_init_15 : decode cX2_init 15 = .ok (.iconst 0, 1) := by decide +kernel
theorem dX2_init_16 : decode cX2_init 16 = .ok (.putfield 18, 3) := by decide +kernel
theorem dX2_init_19 : decode cX2_init 19 = .ok (.aload_n 0, 1) := by decide +kernel
theorem dX2_init_20 : decode cX2_init 20 = .ok (.bipush 16, 2) := by decide +kernel
theorem dX2_init_22 : decode cX2_init 22 = .ok (.newarray .char, 2) := by decide +kernel
theorem dX2_init_24 : decode cX2_init 24 = .ok (.putfield 21, 3) := by decide +kernel
theorem dX2_init_27 : decode cX2_init 27 = .ok (.aload_n 0, 1) := by decide +kernel
theorem dX2_init_28 : decode cX2_init 28 = .ok (.iconst 0, 1) := by decide +kernel
theorem dX2_init_29 : decode cX2_init 29 = .ok (.putfield 25, 3) := by decide +kernel
theorem dX2_init_32 : decode cX2_init 32 = .ok (.aload_n 0, 1) := by decide +kernel
theorem dX2_init_33 : decode cX2_init 33 = .ok (.iconst (-1), 1) := by decide +kernel
theorem dX2_init_34 : decode cX2_init 34 = .ok (.putfield 28, 3) := by decide +kernel
theorem dX2_init_37 : decode cX2_init 37 = .ok (.aload_n 0, 1) := by decide +kernel
theorem dX2_init_38 : decode cX2_init 38 = .ok (.aload_n 1, 1) := by decide +kernel
theorem dX2_init_39 : decode cX2_init 39 = .ok (.putfield 31, 3) := by decide +kernel
theorem dX2_init_42 : decode cX2_init 42 = .ok (.aload_n 0, 1) := by decide +kernel
theorem dX2_init_43 : decode cX2_init 43 = .ok (.aload_n 2, 1) := by decide +kernel
theorem dX2_init_44 : decode cX2_init 44 = .ok (.putfield 34, 3) := by decide +kernel
theorem dX2_init_47 : decode cX2_init 47 = .ok (.return_, 1) := by decide +kernel
theorem dX2_readText_0 : decode cX2_readText 0 = .ok (.aload_n 0, 1) := by decide +kernel
theorem dX2_readText_1 : decode cX2_readText 1 = .ok (.aload_n 1, 1) := by decide +kernel
theorem dX2_readText_2 : decode cX2_readText 2 = .ok (.putfield 31, 3) := by decide +kernel
theorem dX2_readText_5 : decode cX2_readText 5 = .ok (.aload_n 0, 1) := by decide +kernel
theorem dX2_readText_6 : decode cX2_readText 6 = .ok (.iload_n 2, 1) := by decide +kernel
theorem dX2_readText_7 : decode cX2_readText 7 = .ok (.aload_n 1, 1) := by decide +kernel
theorem dX2_readText_8 : decode cX2_readText 8 = .ok (.arraylength, 1) := by decide +kernel
theorem dX2_readText_9 : decode cX2_readText 9 = .ok (.invokestatic 38, 3) := by decide +kernel
theorem dX2_readText_12 : decode cX2_readText 12 = .ok (.putfield 9, 3) := by decide +kernel
theorem dX2_readText_15 : decode cX2_readText 15 = .ok (.aload_n 0, 1) := by decide +kernel
theorem dX2_readText_16 : decode cX2_readText 16 = .ok (.iload_n 3, 1) := by decide +kernel
theorem dX2_readText_17 : decode cX2_readText 17 = .ok (.putfield 25, 3) := by decide +kernel
theorem dX2_readText_20 : decode cX2_readText 20 = .ok (.aload_n 0, 1) := by decide +kernel
theorem dX2_readText_21 : decode cX2_readText 21 = .ok (.iconst (-1), 1) := by decide +kernel
theorem dX2_readText_22 : decode cX2_readText 22 = .ok (.putfield 28, 3) := by decide +kernel
theorem dX2_readText_25 : decode cX2_readText 25 = .ok (.aload_n 0, 1) := by decide +kernel
theorem dX2_readText_26 : decode cX2_readText 26 = .ok (.aload 4, 2) := by decide +kernel
theorem dX2_readText_28 : decode cX2_readText 28 = .ok (.putfield 34, 3) := by decide +kernel
theorem dX2_readText_31 : decode cX2_readText 31 = .ok (.aload_n 0, 1) := by decide +kernel
theorem dX2_readText_32 : decode cX2_readText 32 = .ok (.getfield 34, 3) := by decide +kernel
theorem dX2_readText_35 : decode cX2_readText 35 = .ok (.iload_n 3, 1) := by decide +kernel
theorem dX2_readText_36 : decode cX2_readText 36 = .ok (.invokevirtual 44, 3) := by decide +kernel
theorem dX2_readText_39 : decode cX2_readText 39 = .ok (.aload_n 0, 1) := by decide +kernel
theorem dX2_readText_40 : decode cX2_readText 40 = .ok (.iconst 0, 1) := by decide +kernel
theorem dX2_readText_41 : decode cX2_readText 41 = .ok (.putfield 15, 3) := by decide +kernel
theorem dX2_readText_44 : decode cX2_readText 44 = .ok (.aload_n 0, 1) := by decide +kernel
theorem dX2_readText_45 : decode cX2_readText 45 = .ok (.iconst 0, 1) := by decide +kernel
theorem dX2_readText_46 : decode cX2_readText 46 = .ok (.putfield 18, 3) := by decide +kernel
theorem dX2_readText_49 : decode cX2_readText 49 = .ok (.aload_n 0, 1) := by decide +kernel
theorem dX2_readText_50 : decode cX2_readText 50 = .ok (.invokevirtual 50, 3) := by decide +kernel
theorem dX2_readText_53 : decode cX2_readText 53 = .ok (.pop, 1) := by decide +kernel
theorem dX2_readText_54 : decode cX2_readText 54 = .ok (.aload_n 0, 1) := by decide +kernel
theorem dX2_readText_55 : decode cX2_readText 55 = .ok (.invokevirtual 54, 3) := by decide +kernel
theorem dX2_readText_58 : decode cX2_readText 58 = .ok (.ifCond .eq 35, 3) := by decide +kernel
theorem dX2_readText_61 : decode cX2_readText 61 = .ok (.aload_n 0, 1) := by decide +kernel
theorem dX2_readText_62 : decode cX2_readText 62 = .ok (.getfield 34, 3) := by decide +kernel
theorem dX2_readText_65 : decode cX2_readText 65 = .ok (.getfield 57, 3) := by decide +kernel
theorem dX2_readText_68 : decode cX2_readText 68 = .ok (.iconst 1, 1) := by decide +kernel
theorem dX2_readText_69 : decode cX2_readText 69 = .ok (.if_icmp .ne 13, 3) := by decide +kernel
theorem dX2_readText_72 : decode cX2_readText 72 = .ok (.aload_n 0, 1) := by decide +kernel
theorem dX2_readText_73 : decode cX2_readText 73 = .ok (.invokevirtual 60, 3) := by decide +kernel
theorem dX2_readText_76 : decode cX2_readText 76 = .ok (.ifCond .eq 17, 3) := by decide +kernel
theorem dX2_readText_79 : decode cX2_readText 79 = .ok (.goto 10, 3) := by decide +kernel
theorem dX2_readText_82 : decode cX2_readText 82 = .ok (.aload_n 0, 1) := by decide +kernel
theorem dX2_readText_83 : decode cX2_readText 83 = .ok (.invokevirtual 63, 3) := by decide +kernel
theorem dX2_readText_86 : decode cX2_readText 86 = .ok (.ifCond .eq 7, 3) := by decide +kernel
theorem dX2_readText_89 : decode cX2_readText 89 = .ok (.iconst 1, 1) := by decide +kernel
theorem dX2_readText_90 : decode cX2_readText 90 = .ok (.goto 4, 3) := by decide +kernel
theorem dX2_readText_93 : decode cX2_readText 93 = .ok (.iconst 0, 1) := by decide +kernel
theorem dX2_readText_94 : decode cX2_readText 94 = .ok (.istore 5, 2) := by decide +kernel
theorem dX2_readText_96 : decode cX2_readText 96 = .ok (.iload 5, 2) := by decide +kernel
theorem dX2_readText_98 : decode cX2_readText 98 = .ok (.ifCond .eq 10, 3) := by decide +kernel
theorem dX2_readText_101 : decode cX2_readText 101 = .ok (.aload_n 0, 1) := by decide +kernel
theorem dX2_readText_102 : decode cX2_readText 102 = .ok (.getfield 18, 3) := by decide +kernel
theorem dX2_readText_105 : decode cX2_readText 105 = .ok (.ifCond .le 10, 3) := by decide +kernel
theorem dX2_readText_108 : decode cX2_readText 108 = .ok (.aload_n 0, 1) := by decide +kernel
theorem dX2_readText_109 : decode cX2_readText 109 = .ok (.getfield 15, 3) := by decide +kernel
theorem dX2_readText_112 : decode cX2_readText 112 = .ok (.iconst 1, 1) := by decide +kernel
theorem dX2_readText_113 : decode cX2_readText 113 = .ok (.iadd, 1) := by decide +kernel
theorem dX2_readText_114 : decode cX2_readText 114 = .ok (.ireturn, 1) := by decide +kernel
theorem dX2_readText_115 : decode cX2_readText 115 = .ok (.aload_n 0, 1) := by decide +kernel
theorem dX2_readText_116 : decode cX2_readText 116 = .ok (.getfield 34, 3) := by decide +kernel
theorem dX2_readText_119 : decode cX2_readText 119 = .ok (.aload_n 0, 1) := by decide +kernel
theorem dX2_readText_120 : decode cX2_readText 120 = .ok (.getfield 31, 3) := by decide +kernel
theorem dX2_readText_123 : decode cX2_readText 123 = .ok (.aload_n 0, 1) := by decide +kernel
theorem dX2_readText_124 : decode cX2_readText 124 = .ok (.getfield 9, 3) := by decide +kernel
theorem dX2_readText_127 : decode cX2_readText 127 = .ok (.invokevirtual 66, 3) := by decide +kernel
theorem dX2_readText_130 : decode cX2_readText 130 = .ok (.iconst 0, 1) := by decide +kernel
theorem dX2_readText_131 : decode cX2_readText 131 = .ok (.ireturn, 1) := by decide +kernel
theorem dX2_takeHead_0 : decode cX2_takeHead 0 = .ok (.aload_n 0, 1) := by decide +kernel
theorem dX2_takeHead_1 : decode cX2_takeHead 1 = .ok (.ldc 70, 2) := by decide +kernel
theorem dX2_takeHead_3 : decode cX2_takeHead 3 = .ok (.invokevirtual 72, 3) := by decide +kernel
theorem dX2_takeHead_6 : decode cX2_takeHead 6 = .ok (.ifCond .eq 14, 3) := by decide +kernel
theorem dX2_takeHead_9 : decode cX2_takeHead 9 = .ok (.aload_n 0, 1) := by decide +kernel
theorem dX2_takeHead_10 : decode cX2_takeHead 10 = .ok (.getfield 34, 3) := by decide +kernel
theorem dX2_takeHead_13 : decode cX2_takeHead 13 = .ok (.iconst 1, 1) := by decide +kernel
theorem dX2_takeHead_14 : decode cX2_takeHead 14 = .ok (.putfield 57, 3) := by decide +kernel
theorem dX2_takeHead_17 : decode cX2_takeHead 17 = .ok (.goto 25, 3) := by decide +kernel
theorem dX2_takeHead_20 : decode cX2_takeHead 20 = .ok (.aload_n 0, 1) := by decide +kernel
theorem dX2_takeHead_21 : decode cX2_takeHead 21 = .ok (.ldc 76, 2) := by decide +kernel
theorem dX2_takeHead_23 : decode cX2_takeHead 23 = .ok (.invokevirtual 72, 3) := by decide +kernel
theorem dX2_takeHead_26 : decode cX2_takeHead 26 = .ok (.ifCond .eq 14, 3) := by decide +kernel
theorem dX2_takeHead_29 : decode cX2_takeHead 29 = .ok (.aload_n 0, 1) := by decide +kernel
theorem dX2_takeHead_30 : decode cX2_takeHead 30 = .ok (.getfield 34, 3) := by decide +kernel
theorem dX2_takeHead_33 : decode cX2_takeHead 33 = .ok (.iconst 2, 1) := by decide +kernel
theorem dX2_takeHead_34 : decode cX2_takeHead 34 = .ok (.putfield 57, 3) := by decide +kernel
theorem dX2_takeHead_37 : decode cX2_takeHead 37 = .ok (.goto 5, 3) := by decide +kernel
theorem dX2_takeHead_40 : decode cX2_takeHead 40 = .ok (.iconst 0, 1) := by decide +kernel
theorem dX2_takeHead_41 : decode cX2_takeHead 41 = .ok (.ireturn, 1) := by decide +kernel
theorem dX2_takeHead_42 : decode cX2_takeHead 42 = .ok (.aload_n 0, 1) := by decide +kernel
theorem dX2_takeHead_43 : decode cX2_takeHead 43 = .ok (.invokevirtual 78, 3) := by decide +kernel
theorem dX2_takeHead_46 : decode cX2_takeHead 46 = .ok (.ifCond .eq 14, 3) := by decide +kernel
theorem dX2_takeHead_49 : decode cX2_takeHead 49 = .ok (.aload_n 0, 1) := by decide +kernel
theorem dX2_takeHead_50 : decode cX2_takeHead 50 = .ok (.invokevirtual 81, 3) := by decide +kernel
theorem dX2_takeHead_53 : decode cX2_takeHead 53 = .ok (.ifCond .eq 7, 3) := by decide +kernel
theorem dX2_takeHead_56 : decode cX2_takeHead 56 = .ok (.iconst 1, 1) := by decide +kernel
theorem dX2_takeHead_57 : decode cX2_takeHead 57 = .ok (.goto 4, 3) := by decide +kernel
theorem dX2_takeHead_60 : decode cX2_takeHead 60 = .ok (.iconst 0, 1) := by decide +kernel
theorem dX2_takeHead_61 : decode cX2_takeHead 61 = .ok (.ireturn, 1) := by decide +kernel
theorem dX2_takeReport_0 : decode cX2_takeReport 0 = .ok (.aload_n 0, 1) := by decide +kernel
theorem dX2_takeReport_1 : decode cX2_takeReport 1 = .ok (.aload_n 0, 1) := by decide +kernel
theorem dX2_takeReport_2 : decode cX2_takeReport 2 = .ok (.getfield 34, 3) := by decide +kernel
theorem dX2_takeReport_5 : decode cX2_takeReport 5 = .ok (.getfield 84, 3) := by decide +kernel
theorem dX2_takeReport_8 : decode cX2_takeReport 8 = .ok (.iconst 0, 1) := by decide +kernel
theorem dX2_takeReport_9 : decode cX2_takeReport 9 = .ok (.aaload, 1) := by decide +kernel
theorem dX2_takeReport_10 : decode cX2_takeReport 10 = .ok (.invokevirtual 88, 3) := by decide +kernel
theorem dX2_takeReport_13 : decode cX2_takeReport 13 = .ok (.ifCond .eq 21, 3) := by decide +kernel
theorem dX2_takeReport_16 : decode cX2_takeReport 16 = .ok (.aload_n 0, 1) := by decide +kernel
theorem dX2_takeReport_17 : decode cX2_takeReport 17 = .ok (.invokevirtual 92, 3) := by decide +kernel
theorem dX2_takeReport_20 : decode cX2_takeReport 20 = .ok (.ifCond .eq 14, 3) := by decide +kernel
theorem dX2_takeReport_23 : decode cX2_takeReport 23 = .ok (.aload_n 0, 1) := by decide +kernel
theorem dX2_takeReport_24 : decode cX2_takeReport 24 = .ok (.invokevirtual 95, 3) := by decide +kernel
theorem dX2_takeReport_27 : decode cX2_takeReport 27 = .ok (.ifCond .eq 7, 3) := by decide +kernel
theorem dX2_takeReport_30 : decode cX2_takeReport 30 = .ok (.iconst 1, 1) := by decide +kernel
theorem dX2_takeReport_31 : decode cX2_takeReport 31 = .ok (.goto 4, 3) := by decide +kernel
theorem dX2_takeReport_34 : decode cX2_takeReport 34 = .ok (.iconst 0, 1) := by decide +kernel
theorem dX2_takeReport_35 : decode cX2_takeReport 35 = .ok (.ireturn, 1) := by decide +kernel
theorem dX2_takeForecast_0 : decode cX2_takeForecast 0 = .ok (.aload_n 0, 1) := by decide +kernel
theorem dX2_takeForecast_1 : decode cX2_takeForecast 1 = .ok (.aload_n 0, 1) := by decide +kernel
theorem dX2_takeForecast_2 : decode cX2_takeForecast 2 = .ok (.getfield 34, 3) := by decide +kernel
theorem dX2_takeForecast_5 : decode cX2_takeForecast 5 = .ok (.getfield 84, 3) := by decide +kernel
theorem dX2_takeForecast_8 : decode cX2_takeForecast 8 = .ok (.iconst 0, 1) := by decide +kernel
theorem dX2_takeForecast_9 : decode cX2_takeForecast 9 = .ok (.aaload, 1) := by decide +kernel
theorem dX2_takeForecast_10 : decode cX2_takeForecast 10 = .ok (.invokevirtual 98, 3) := by decide +kernel
theorem dX2_takeForecast_13 : decode cX2_takeForecast 13 = .ok (.ifCond .eq 19, 3) := by decide +kernel
theorem dX2_takeForecast_16 : decode cX2_takeForecast 16 = .ok (.aload_n 0, 1) := by decide +kernel
theorem dX2_takeForecast_17 : decode cX2_takeForecast 17 = .ok (.aload_n 0, 1) := by decide +kernel
theorem dX2_takeForecast_18 : decode cX2_takeForecast 18 = .ok (.getfield 34, 3) := by decide +kernel
theorem dX2_takeForecast_21 : decode cX2_takeForecast 21 = .ok (.getfield 84, 3) := by decide +kernel
theorem dX2_takeForecast_24 : decode cX2_takeForecast 24 = .ok (.iconst 0, 1) := by decide +kernel
theorem dX2_takeForecast_25 : decode cX2_takeForecast 25 = .ok (.aaload, 1) := by decide +kernel
theorem dX2_takeForecast_26 : decode cX2_takeForecast 26 = .ok (.invokevirtual 88, 3) := by decide +kernel
theorem dX2_takeForecast_29 : decode cX2_takeForecast 29 = .ok (.ifCond .ne 5, 3) := by decide +kernel
theorem dX2_takeForecast_32 : decode cX2_takeForecast 32 = .ok (.iconst 0, 1) := by decide +kernel
theorem dX2_takeForecast_33 : decode cX2_takeForecast 33 = .ok (.ireturn, 1) := by decide +kernel
theorem dX2_takeForecast_34 : decode cX2_takeForecast 34 = .ok (.iconst 1, 1) := by decide +kernel
theorem dX2_takeForecast_35 : decode cX2_takeForecast 35 = .ok (.istore_n 1, 1) := by decide +kernel
theorem dX2_takeForecast_36 : decode cX2_takeForecast 36 = .ok (.iconst 1, 1) := by decide +kernel
theorem dX2_takeForecast_37 : decode cX2_takeForecast 37 = .ok (.istore_n 2, 1) := by decide +kernel
theorem dX2_takeForecast_38 : decode cX2_takeForecast 38 = .ok (.iload_n 2, 1) := by decide +kernel
theorem dX2_takeForecast_39 : decode cX2_takeForecast 39 = .ok (.bipush 9, 2) := by decide +kernel
theorem dX2_takeForecast_41 : decode cX2_takeForecast 41 = .ok (.if_icmp .ge 83, 3) := by decide +kernel
theorem dX2_takeForecast_44 : decode cX2_takeForecast 44 = .ok (.aload_n 0, 1) := by decide +kernel
theorem dX2_takeForecast_45 : decode cX2_takeForecast 45 = .ok (.getfield 18, 3) := by decide +kernel
theorem dX2_takeForecast_48 : decode cX2_takeForecast 48 = .ok (.ifCond .le 76, 3) := by decide +kernel
theorem dX2_takeForecast_51 : decode cX2_takeForecast 51 = .ok (.iload_n 1, 1) := by decide +kernel
theorem dX2_takeForecast_52 : decode cX2_takeForecast 52 = .ok (.ifCond .eq 72, 3) := by decide +kernel
theorem dX2_takeForecast_55 : decode cX2_takeForecast 55 = .ok (.aload_n 0, 1) := by decide +kernel
theorem dX2_takeForecast_56 : decode cX2_takeForecast 56 = .ok (.getfield 34, 3) := by decide +kernel
theorem dX2_takeForecast_59 : decode cX2_takeForecast 59 = .ok (.invokevirtual 101, 3) := by decide +kernel
theorem dX2_takeForecast_62 : decode cX2_takeForecast 62 = .ok (.aload_n 0, 1) := by decide +kernel
theorem dX2_takeForecast_63 : decode cX2_takeForecast 63 = .ok (.getfield 34, 3) := by decide +kernel
theorem dX2_takeForecast_66 : decode cX2_takeForecast 66 = .ok (.getfield 84, 3) := by decide +kernel
theorem dX2_takeForecast_69 : decode cX2_takeForecast 69 = .ok (.iload_n 2, 1) := by decide +kernel
theorem dX2_takeForecast_70 : decode cX2_takeForecast 70 = .ok (.aaload, 1) := by decide +kernel
theorem dX2_takeForecast_71 : decode cX2_takeForecast 71 = .ok (.astore_n 3, 1) := by decide +kernel
theorem dX2_takeForecast_72 : decode cX2_takeForecast 72 = .ok (.aload_n 0, 1) := by decide +kernel
theorem dX2_takeForecast_73 : decode cX2_takeForecast 73 = .ok (.aload_n 3, 1) := by decide +kernel
theorem dX2_takeForecast_74 : decode cX2_takeForecast 74 = .ok (.invokevirtual 104, 3) := by decide +kernel
theorem dX2_takeForecast_77 : decode cX2_takeForecast 77 = .ok (.ifCond .eq 11, 3) := by decide +kernel
theorem dX2_takeForecast_80 : decode cX2_takeForecast 80 = .ok (.aload_n 0, 1) := by decide +kernel
theorem dX2_takeForecast_81 : decode cX2_takeForecast 81 = .ok (.aload_n 3, 1) := by decide +kernel
theorem dX2_takeForecast_82 : decode cX2_takeForecast 82 = .ok (.invokevirtual 88, 3) := by decide +kernel
theorem dX2_takeForecast_85 : decode cX2_takeForecast 85 = .ok (.goto 32, 3) := by decide +kernel
theorem dX2_takeForecast_88 : decode cX2_takeForecast 88 = .ok (.aload_n 0, 1) := by decide +kernel
theorem dX2_takeForecast_89 : decode cX2_takeForecast 89 = .ok (.aload_n 3, 1) := by decide +kernel
theorem dX2_takeForecast_90 : decode cX2_takeForecast 90 = .ok (.invokevirtual 107, 3) := by decide +kernel
theorem dX2_takeForecast_93 : decode cX2_takeForecast 93 = .ok (.ifCond .eq 23, 3) := by decide +kernel
theorem dX2_takeForecast_96 : decode cX2_takeForecast 96 = .ok (.aload_n 0, 1) := by decide +kernel
theorem dX2_takeForecast_97 : decode cX2_takeForecast 97 = .ok (.aload_n 3, 1) := by decide +kernel
theorem dX2_takeForecast_98 : decode cX2_takeForecast 98 = .ok (.invokevirtual 110, 3) := by decide +kernel
theorem dX2_takeForecast_101 : decode cX2_takeForecast 101 = .ok (.ifCond .eq 15, 3) := by decide +kernel
theorem dX2_takeForecast_104 : decode cX2_takeForecast 104 = .ok (.aload_n 0, 1) := by decide +kernel
theorem dX2_takeForecast_105 : decode cX2_takeForecast 105 = .ok (.aload_n 3, 1) := by decide +kernel
theorem dX2_takeForecast_106 : decode cX2_takeForecast 106 = .ok (.invokevirtual 113, 3) := by decide +kernel
theorem dX2_takeForecast_109 : decode cX2_takeForecast 109 = .ok (.ifCond .eq 7, 3) := by decide +kernel
theorem dX2_takeForecast_112 : decode cX2_takeForecast 112 = .ok (.iconst 1, 1) := by decide +kernel
theorem dX2_takeForecast_113 : decode cX2_takeForecast 113 = .ok (.goto 4, 3) := by decide +kernel
theorem dX2_takeForecast_116 : decode cX2_takeForecast 116 = .ok (.iconst 0, 1) := by decide +kernel
theorem dX2_takeForecast_117 : decode cX2_takeForecast 117 = .ok (.istore_n 1, 1) := by decide +kernel
theorem dX2_takeForecast_118 : decode cX2_takeForecast 118 = .ok (.iinc 2 1, 3) := by decide +kernel
theorem dX2_takeForecast_121 : decode cX2_takeForecast 121 = .ok (.goto (-83), 3) := by decide +kernel
theorem dX2_takeForecast_124 : decode cX2_takeForecast 124 = .ok (.iload_n 1, 1) := by decide +kernel
theorem dX2_takeForecast_125 : decode cX2_takeForecast 125 = .ok (.ireturn, 1) := by decide +kernel
theorem dX2_takeChangeName_0 : decode cX2_takeChangeName 0 = .ok (.aload_n 0, 1) := by decide +kernel
theorem dX2_takeChangeName_1 : decode cX2_takeChangeName 1 = .ok (.ldc 116, 2) := by decide +kernel
theorem dX2_takeChangeName_3 : decode cX2_takeChangeName 3 = .ok (.invokevirtual 72, 3) := by decide +kernel
theorem dX2_takeChangeName_6 : decode cX2_takeChangeName 6 = .ok (.ifCond .eq 10, 3) := by decide +kernel
theorem dX2_takeChangeName_9 : decode cX2_takeChangeName 9 = .ok (.aload_n 1, 1) := by decide +kernel
theorem dX2_takeChangeName_10 : decode cX2_takeChangeName 10 = .ok (.iconst 2, 1) := by decide +kernel
theorem dX2_takeChangeName_11 : decode cX2_takeChangeName 11 = .ok (.putfield 118, 3) := by decide +kernel
theorem dX2_takeChangeName_14 : decode cX2_takeChangeName 14 = .ok (.iconst 1, 1) := by decide +kernel
theorem dX2_takeChangeName_15 : decode cX2_takeChangeName 15 = .ok (.ireturn, 1) := by decide +kernel
theorem dX2_takeChangeName_16 : decode cX2_takeChangeName 16 = .ok (.aload_n 0, 1) := by decide +kernel
theorem dX2_takeChangeName_17 : decode cX2_takeChangeName 17 = .ok (.ldc 121, 2) := by decide +kernel
theorem dX2_takeChangeName_19 : decode cX2_takeChangeName 19 = .ok (.invokevirtual 72, 3) := by decide +kernel
theorem dX2_takeChangeName_22 : decode cX2_takeChangeName 22 = .ok (.ifCond .eq 10, 3) := by decide +kernel
theorem dX2_takeChangeName_25 : decode cX2_takeChangeName 25 = .ok (.aload_n 1, 1) := by decide +kernel
theorem dX2_takeChangeName_26 : decode cX2_takeChangeName 26 = .ok (.iconst 3, 1) := by decide +kernel
theorem dX2_takeChangeName_27 : decode cX2_takeChangeName 27 = .ok (.putfield 118, 3) := by decide +kernel
theorem dX2_takeChangeName_30 : decode cX2_takeChangeName 30 = .ok (.iconst 1, 1) := by decide +kernel
theorem dX2_takeChangeName_31 : decode cX2_takeChangeName 31 = .ok (.ireturn, 1) := by decide +kernel
theorem dX2_takeChangeName_32 : decode cX2_takeChangeName 32 = .ok (.aload_n 0, 1) := by decide +kernel
theorem dX2_takeChangeName_33 : decode cX2_takeChangeName 33 = .ok (.ldc 123, 2) := by decide +kernel
theorem dX2_takeChangeName_35 : decode cX2_takeChangeName 35 = .ok (.invokevirtual 72, 3) := by decide +kernel
theorem dX2_takeChangeName_38 : decode cX2_takeChangeName 38 = .ok (.ifCond .eq 12, 3) := by decide +kernel
theorem dX2_takeChangeName_41 : decode cX2_takeChangeName 41 = .ok (.aload_n 1, 1) := by decide +kernel
theorem dX2_takeChangeName_42 : decode cX2_takeChangeName 42 = .ok (.bipush 30, 2) := by decide +kernel
theorem dX2_takeChangeName_44 : decode cX2_takeChangeName 44 = .ok (.putfield 125, 3) := by decide +kernel
theorem dX2_takeChangeName_47 : decode cX2_takeChangeName 47 = .ok (.goto 23, 3) := by decide +kernel
theorem dX2_takeChangeName_50 : decode cX2_takeChangeName 50 = .ok (.aload_n 0, 1) := by decide +kernel
theorem dX2_takeChangeName_51 : decode cX2_takeChangeName 51 = .ok (.ldc 128, 2) := by decide +kernel
theorem dX2_takeChangeName_53 : decode cX2_takeChangeName 53 = .ok (.invokevirtual 72, 3) := by decide +kernel
theorem dX2_takeChangeName_56 : decode cX2_takeChangeName 56 = .ok (.ifCond .eq 12, 3) := by decide +kernel
theorem dX2_takeChangeName_59 : decode cX2_takeChangeName 59 = .ok (.aload_n 1, 1) := by decide +kernel
theorem dX2_takeChangeName_60 : decode cX2_takeChangeName 60 = .ok (.bipush 40, 2) := by decide +kernel
theorem dX2_takeChangeName_62 : decode cX2_takeChangeName 62 = .ok (.putfield 125, 3) := by decide +kernel
theorem dX2_takeChangeName_65 : decode cX2_takeChangeName 65 = .ok (.goto 5, 3) := by decide +kernel
theorem dX2_takeChangeName_68 : decode cX2_takeChangeName 68 = .ok (.iconst 0, 1) := by decide +kernel
theorem dX2_takeChangeName_69 : decode cX2_takeChangeName 69 = .ok (.ireturn, 1) := by decide +kernel
theorem dX2_takeChangeName_70 : decode cX2_takeChangeName 70 = .ok (.aload_n 1, 1) := by decide +kernel
theorem dX2_takeChangeName_71 : decode cX2_takeChangeName 71 = .ok (.aload_n 0, 1) := by decide +kernel
theorem dX2_takeChangeName_72 : decode cX2_takeChangeName 72 = .ok (.ldc 121, 2) := by decide +kernel
theorem dX2_takeChangeName_74 : decode cX2_takeChangeName 74 = .ok (.invokevirtual 72, 3) := by decide +kernel
theorem dX2_takeChangeName_77 : decode cX2_takeChangeName 77 = .ok (.ifCond .eq 7, 3) := by decide +kernel
theorem dX2_takeChangeName_80 : decode cX2_takeChangeName 80 = .ok (.iconst 5, 1) := by decide +kernel
theorem dX2_takeChangeName_81 : decode cX2_takeChangeName 81 = .ok (.goto 4, 3) := by decide +kernel
theorem dX2_takeChangeName_84 : decode cX2_takeChangeName 84 = .ok (.iconst 4, 1) := by decide +kernel
theorem dX2_takeChangeName_85 : decode cX2_takeChangeName 85 = .ok (.putfield 118, 3) := by decide +kernel
theorem dX2_takeChangeName_88 : decode cX2_takeChangeName 88 = .ok (.iconst 1, 1) := by decide +kernel
theorem dX2_takeChangeName_89 : decode cX2_takeChangeName 89 = .ok (.ireturn, 1) := by decide +kernel
theorem dX2_takeWhole_0 : decode cX2_takeWhole 0 = .ok (.aload_n 0, 1) := by decide +kernel
theorem dX2_takeWhole_1 : decode cX2_takeWhole 1 = .ok (.aload_n 1, 1) := by decide +kernel
theorem dX2_takeWhole_2 : decode cX2_takeWhole 2 = .ok (.invokevirtual 130, 3) := by decide +kernel
theorem dX2_takeWhole_5 : decode cX2_takeWhole 5 = .ok (.ifCond .ne 5, 3) := by decide +kernel
theorem dX2_takeWhole_8 : decode cX2_takeWhole 8 = .ok (.iconst 0, 1) := by decide +kernel
theorem dX2_takeWhole_9 : decode cX2_takeWhole 9 = .ok (.ireturn, 1) := by decide +kernel
theorem dX2_takeWhole_10 : decode cX2_takeWhole 10 = .ok (.aload_n 0, 1) := by decide +kernel
theorem dX2_takeWhole_11 : decode cX2_takeWhole 11 = .ok (.aload_n 1, 1) := by decide +kernel
theorem dX2_takeWhole_12 : decode cX2_takeWhole 12 = .ok (.invokevirtual 133, 3) := by decide +kernel
theorem dX2_takeWhole_15 : decode cX2_takeWhole 15 = .ok (.ifCond .eq 5, 3) := by decide +kernel
theorem dX2_takeWhole_18 : decode cX2_takeWhole 18 = .ok (.iconst 1, 1) := by decide +kernel
theorem dX2_takeWhole_19 : decode cX2_takeWhole 19 = .ok (.ireturn, 1) := by decide +kernel
theorem dX2_takeWhole_20 : decode cX2_takeWhole 20 = .ok (.aload_n 0, 1) := by decide +kernel
theorem dX2_takeWhole_21 : decode cX2_takeWhole 21 = .ok (.aload_n 1, 1) := by decide +kernel
theorem dX2_takeWhole_22 : decode cX2_takeWhole 22 = .ok (.invokevirtual 136, 3) := by decide +kernel
theorem dX2_takeWhole_25 : decode cX2_takeWhole 25 = .ok (.ifCond .ne 5, 3) := by decide +kernel
theorem dX2_takeWhole_28 : decode cX2_takeWhole 28 = .ok (.iconst 0, 1) := by decide +kernel
theorem dX2_takeWhole_29 : decode cX2_takeWhole 29 = .ok (.ireturn, 1) := by decide +kernel
theorem dX2_takeWhole_30 : decode cX2_takeWhole 30 = .ok (.aload_n 1, 1) := by decide +kernel
theorem dX2_takeWhole_31 : decode cX2_takeWhole 31 = .ok (.iconst 0, 1) := by decide +kernel
theorem dX2_takeWhole_32 : decode cX2_takeWhole 32 = .ok (.putfield 139, 3) := by decide +kernel
theorem dX2_takeWhole_35 : decode cX2_takeWhole 35 = .ok (.aload_n 0, 1) := by decide +kernel
theorem dX2_takeWhole_36 : decode cX2_takeWhole 36 = .ok (.aload_n 1, 1) := by decide +kernel
theorem dX2_takeWhole_37 : decode cX2_takeWhole 37 = .ok (.invokevirtual 142, 3) := by decide +kernel
theorem dX2_takeWhole_40 : decode cX2_takeWhole 40 = .ok (.aload_n 0, 1) := by decide +kernel
theorem dX2_takeWhole_41 : decode cX2_takeWhole 41 = .ok (.aload_n 1, 1) := by decide +kernel
theorem dX2_takeWhole_42 : decode cX2_takeWhole 42 = .ok (.invokevirtual 146, 3) := by decide +kernel
theorem dX2_takeWhole_45 : decode cX2_takeWhole 45 = .ok (.ireturn, 1) := by decide +kernel
theorem dX2_takeParts_0 : decode cX2_takeParts 0 = .ok (.aload_n 0, 1) := by decide +kernel
theorem dX2_takeParts_1 : decode cX2_takeParts 1 = .ok (.aload_n 1, 1) := by decide +kernel
theorem dX2_takeParts_2 : decode cX2_takeParts 2 = .ok (.invokevirtual 130, 3) := by decide +kernel
theorem dX2_takeParts_5 : decode cX2_takeParts 5 = .ok (.pop, 1) := by decide +kernel
theorem dX2_takeParts_6 : decode cX2_takeParts 6 = .ok (.aload_n 0, 1) := by decide +kernel
theorem dX2_takeParts_7 : decode cX2_takeParts 7 = .ok (.aload_n 1, 1) := by decide +kernel
theorem dX2_takeParts_8 : decode cX2_takeParts 8 = .ok (.invokevirtual 133, 3) := by decide +kernel
theorem dX2_takeParts_11 : decode cX2_takeParts 11 = .ok (.ifCond .eq 5, 3) := by decide +kernel
theorem dX2_takeParts_14 : decode cX2_takeParts 14 = .ok (.iconst 1, 1) := by decide +kernel
theorem dX2_takeParts_15 : decode cX2_takeParts 15 = .ok (.ireturn, 1) := by decide +kernel
theorem dX2_takeParts_16 : decode cX2_takeParts 16 = .ok (.aload_n 0, 1) := by decide +kernel
theorem dX2_takeParts_17 : decode cX2_takeParts 17 = .ok (.aload_n 1, 1) := by decide +kernel
theorem dX2_takeParts_18 : decode cX2_takeParts 18 = .ok (.invokevirtual 136, 3) := by decide +kernel
theorem dX2_takeParts_21 : decode cX2_takeParts 21 = .ok (.pop, 1) := by decide +kernel
theorem dX2_takeParts_22 : decode cX2_takeParts 22 = .ok (.aload_n 0, 1) := by decide +kernel
theorem dX2_takeParts_23 : decode cX2_takeParts 23 = .ok (.ldc 149, 2) := by decide +kernel
theorem dX2_takeParts_25 : decode cX2_takeParts 25 = .ok (.invokevirtual 72, 3) := by decide +kernel
theorem dX2_takeParts_28 : decode cX2_takeParts 28 = .ok (.ifCond .eq 11, 3) := by decide +kernel
theorem dX2_takeParts_31 : decode cX2_takeParts 31 = .ok (.aload_n 1, 1) := by decide +kernel
theorem dX2_takeParts_32 : decode cX2_takeParts 32 = .ok (.iconst 0, 1) := by decide +kernel
theorem dX2_takeParts_33 : decode cX2_takeParts 33 = .ok (.putfield 139, 3) := by decide +kernel
theorem dX2_takeParts_36 : decode cX2_takeParts 36 = .ok (.goto 8, 3) := by decide +kernel
theorem dX2_takeParts_39 : decode cX2_takeParts 39 = .ok (.aload_n 0, 1) := by decide +kernel
theorem dX2_takeParts_40 : decode cX2_takeParts 40 = .ok (.aload_n 1, 1) := by decide +kernel
theorem dX2_takeParts_41 : decode cX2_takeParts 41 = .ok (.invokevirtual 142, 3) := by decide +kernel
theorem dX2_takeParts_44 : decode cX2_takeParts 44 = .ok (.aload_n 0, 1) := by decide +kernel
theorem dX2_takeParts_45 : decode cX2_takeParts 45 = .ok (.aload_n 1, 1) := by decide +kernel
theorem dX2_takeParts_46 : decode cX2_takeParts 46 = .ok (.invokevirtual 146, 3) := by decide +kernel
theorem dX2_takeParts_49 : decode cX2_takeParts 49 = .ok (.pop, 1) := by decide +kernel
theorem dX2_takeParts_50 : decode cX2_takeParts 50 = .ok (.aload_n 1, 1) := by decide +kernel
theorem dX2_takeParts_51 : decode cX2_takeParts 51 = .ok (.invokevirtual 151, 3) := by decide +kernel
theorem dX2_takeParts_54 : decode cX2_takeParts 54 = .ok (.ireturn, 1) := by decide +kernel
theorem dX2_takeStation_0 : decode cX2_takeStation 0 = .ok (.aload_n 0, 1) := by decide +kernel
theorem dX2_takeStation_1 : decode cX2_takeStation 1 = .ok (.getfield 18, 3) := by decide +kernel
theorem dX2_takeStation_4 : decode cX2_takeStation 4 = .ok (.iconst 4, 1) := by decide +kernel
theorem dX2_takeStation_5 : decode cX2_takeStation 5 = .ok (.if_icmp .eq 5, 3) := by decide +kernel
theorem dX2_takeStation_8 : decode cX2_takeStation 8 = .ok (.iconst 0, 1) := by decide +kernel
theorem dX2_takeStation_9 : decode cX2_takeStation 9 = .ok (.ireturn, 1) := by decide +kernel
theorem dX2_takeStation_10 : decode cX2_takeStation 10 = .ok (.iconst 0, 1) := by decide +kernel
theorem dX2_takeStation_11 : decode cX2_takeStation 11 = .ok (.istore_n 1, 1) := by decide +kernel
theorem dX2_takeStation_12 : decode cX2_takeStation 12 = .ok (.iload_n 1, 1) := by decide +kernel
theorem dX2_takeStation_13 : decode cX2_takeStation 13 = .ok (.iconst 4, 1) := by decide +kernel
theorem dX2_takeStation_14 : decode cX2_takeStation 14 = .ok (.if_icmp .ge 48, 3) := by decide +kernel
theorem dX2_takeStation_17 : decode cX2_takeStation 17 = .ok (.aload_n 0, 1) := by decide +kernel
theorem dX2_takeStation_18 : decode cX2_takeStation 18 = .ok (.getfield 21, 3) := by decide +kernel
theorem dX2_takeStation_21 : decode cX2_takeStation 21 = .ok (.iload_n 1, 1) := by decide +kernel
theorem dX2_takeStation_22 : decode cX2_takeStation 22 = .ok (.caload, 1) := by decide +kernel
theorem dX2_takeStation_23 : decode cX2_takeStation 23 = .ok (.bipush 65, 2) := by decide +kernel
theorem dX2_takeStation_25 : decode cX2_takeStation 25 = .ok (.if_icmp .lt 14, 3) := by decide +kernel
theorem dX2_takeStation_28 : decode cX2_takeStation 28 = .ok (.aload_n 0, 1) := by decide +kernel
theorem dX2_takeStation_29 : decode cX2_takeStation 29 = .ok (.getfield 21, 3) := by decide +kernel
theorem dX2_takeStation_32 : decode cX2_takeStation 32 = .ok (.iload_n 1, 1) := by decide +kernel
theorem dX2_takeStation_33 : decode cX2_takeStation 33 = .ok (.caload, 1) := by decide +kernel
theorem dX2_takeStation_34 : decode cX2_takeStation 34 = .ok (.bipush 90, 2) := by decide +kernel
theorem dX2_takeStation_36 : decode cX2_takeStation 36 = .ok (.if_icmp .le 5, 3) := by decide +kernel
theorem dX2_takeStation_39 : decode cX2_takeStation 39 = .ok (.iconst 0, 1) := by decide +kernel
theorem dX2_takeStation_40 : decode cX2_takeStation 40 = .ok (.ireturn, 1) := by decide +kernel
theorem dX2_takeStation_41 : decode cX2_takeStation 41 = .ok (.aload_n 0, 1) := by decide +kernel
theorem dX2_takeStation_42 : decode cX2_takeStation 42 = .ok (.getfield 34, 3) := by decide +kernel
theorem dX2_takeStation_45 : decode cX2_takeStation 45 = .ok (.getfield 154, 3) := by decide +kernel
theorem dX2_takeStation_48 : decode cX2_takeStation 48 = .ok (.iload_n 1, 1) := by decide +kernel
theorem dX2_takeStation_49 : decode cX2_takeStation 49 = .ok (.aload_n 0, 1) := by decide +kernel
theorem dX2_takeStation_50 : decode cX2_takeStation 50 = .ok (.getfield 21, 3) := by decide +kernel
theorem dX2_takeStation_53 : decode cX2_takeStation 53 = .ok (.iload_n 1, 1) := by decide +kernel
theorem dX2_takeStation_54 : decode cX2_takeStation 54 = .ok (.caload, 1) := by decide +kernel
theorem dX2_takeStation_55 : decode cX2_takeStation 55 = .ok (.iastore, 1) := by decide +kernel
theorem dX2_takeStation_56 : decode cX2_takeStation 56 = .ok (.iinc 1 1, 3) := by decide +kernel
theorem dX2_takeStation_59 : decode cX2_takeStation 59 = .ok (.goto (-47), 3) := by decide +kernel
theorem dX2_takeStation_62 : decode cX2_takeStation 62 = .ok (.aload_n 0, 1) := by decide +kernel
theorem dX2_takeStation_63 : decode cX2_takeStation 63 = .ok (.invokevirtual 50, 3) := by decide +kernel
theorem dX2_takeStation_66 : decode cX2_takeStation 66 = .ok (.ireturn, 1) := by decide +kernel
theorem dX2_takeIssue_0 : decode cX2_takeIssue 0 = .ok (.aload_n 0, 1) := by decide +kernel
theorem dX2_takeIssue_1 : decode cX2_takeIssue 1 = .ok (.getfield 34, 3) := by decide +kernel
theorem dX2_takeIssue_4 : decode cX2_takeIssue 4 = .ok (.aload_n 0, 1) := by decide +kernel
theorem dX2_takeIssue_5 : decode cX2_takeIssue 5 = .ok (.iconst 0, 1) := by decide +kernel
theorem dX2_takeIssue_6 : decode cX2_takeIssue 6 = .ok (.invokevirtual 158, 3) := by decide +kernel
theorem dX2_takeIssue_9 : decode cX2_takeIssue 9 = .ok (.putfield 162, 3) := by decide +kernel
theorem dX2_takeIssue_12 : decode cX2_takeIssue 12 = .ok (.aload_n 0, 1) := by decide +kernel
theorem dX2_takeIssue_13 : decode cX2_takeIssue 13 = .ok (.getfield 18, 3) := by decide +kernel
theorem dX2_takeIssue_16 : decode cX2_takeIssue 16 = .ok (.bipush 7, 2) := by decide +kernel
theorem dX2_takeIssue_18 : decode cX2_takeIssue 18 = .ok (.if_icmp .ne 37, 3) := by decide +kernel
theorem dX2_takeIssue_21 : decode cX2_takeIssue 21 = .ok (.aload_n 0, 1) := by decide +kernel
theorem dX2_takeIssue_22 : decode cX2_takeIssue 22 = .ok (.getfield 21, 3) := by decide +kernel
theorem dX2_takeIssue_25 : decode cX2_takeIssue 25 = .ok (.bipush 6, 2) := by decide +kernel
theorem dX2_takeIssue_27 : decode cX2_takeIssue 27 = .ok (.caload, 1) := by decide +kernel
theorem dX2_takeIssue_28 : decode cX2_takeIssue 28 = .ok (.bipush 90, 2) := by decide +kernel
theorem dX2_takeIssue_30 : decode cX2_takeIssue 30 = .ok (.if_icmp .ne 25, 3) := by decide +kernel
theorem dX2_takeIssue_33 : decode cX2_takeIssue 33 = .ok (.aload_n 0, 1) := by decide +kernel
theorem dX2_takeIssue_34 : decode cX2_takeIssue 34 = .ok (.getfield 34, 3) := by decide +kernel
theorem dX2_takeIssue_37 : decode cX2_takeIssue 37 = .ok (.getfield 162, 3) := by decide +kernel
theorem dX2_takeIssue_40 : decode cX2_takeIssue 40 = .ok (.iconst (-1), 1) := by decide +kernel
theorem dX2_takeIssue_41 : decode cX2_takeIssue 41 = .ok (.if_icmp .eq 14, 3) := by decide +kernel
theorem dX2_takeIssue_44 : decode cX2_takeIssue 44 = .ok (.aload_n 0, 1) := by decide +kernel
theorem dX2_takeIssue_45 : decode cX2_takeIssue 45 = .ok (.invokevirtual 50, 3) := by decide +kernel
theorem dX2_takeIssue_48 : decode cX2_takeIssue 48 = .ok (.ifCond .eq 7, 3) := by decide +kernel
theorem dX2_takeIssue_51 : decode cX2_takeIssue 51 = .ok (.iconst 1, 1) := by decide +kernel
theorem dX2_takeIssue_52 : decode cX2_takeIssue 52 = .ok (.goto 4, 3) := by decide +kernel
theorem dX2_takeIssue_55 : decode cX2_takeIssue 55 = .ok (.iconst 0, 1) := by decide +kernel
theorem dX2_takeIssue_56 : decode cX2_takeIssue 56 = .ok (.ireturn, 1) := by decide +kernel
theorem dX2_takeTemperatures_0 : decode cX2_takeTemperatures 0 = .ok (.aload_n 0, 1) := by decide +kernel
theorem dX2_takeTemperatures_1 : decode cX2_takeTemperatures 1 = .ok (.getfield 21, 3) := by decide +kernel
theorem dX2_takeTemperatures_4 : decode cX2_takeTemperatures 4 = .ok (.iconst 0, 1) := by decide +kernel
theorem dX2_takeTemperatures_5 : decode cX2_takeTemperatures 5 = .ok (.caload, 1) := by decide +kernel
theorem dX2_takeTemperatures_6 : decode cX2_takeTemperatures 6 = .ok (.bipush 77, 2) := by decide +kernel
theorem dX2_takeTemperatures_8 : decode cX2_takeTemperatures 8 = .ok (.if_icmp .ne 7, 3) := by decide +kernel
theorem dX2_takeTemperatures_11 : decode cX2_takeTemperatures 11 = .ok (.iconst 3, 1) := by decide +kernel
theorem dX2_takeTemperatures_12 : decode cX2_takeTemperatures 12 = .ok (.goto 4, 3) := by decide +kernel
theorem dX2_takeTemperatures_15 : decode cX2_takeTemperatures 15 = .ok (.iconst 2, 1) := by decide +kernel
theorem dX2_takeTemperatures_16 : decode cX2_takeTemperatures 16 = .ok (.istore_n 1, 1) := by decide +kernel
theorem dX2_takeTemperatures_17 : decode cX2_takeTemperatures 17 = .ok (.aload_n 0, 1) := by decide +kernel
theorem dX2_takeTemperatures_18 : decode cX2_takeTemperatures 18 = .ok (.getfield 21, 3) := by decide +kernel
theorem dX2_takeTemperatures_21 : decode cX2_takeTemperatures 21 = .ok (.iload_n 1, 1) := by decide +kernel
theorem dX2_takeTemperatures_22 : decode cX2_takeTemperatures 22 = .ok (.iconst 1, 1) := by decide +kernel
theorem dX2_takeTemperatures_23 : decode cX2_takeTemperatures 23 = .ok (.iadd, 1) := by decide +kernel
theorem dX2_takeTemperatures_24 : decode cX2_takeTemperatures 24 = .ok (.caload, 1) := by decide +kernel
theorem dX2_takeTemperatures_25 : decode cX2_takeTemperatures 25 = .ok (.bipush 77, 2) := by decide +kernel
theorem dX2_takeTemperatures_27 : decode cX2_takeTemperatures 27 = .ok (.if_icmp .ne 9, 3) := by decide +kernel
theorem dX2_takeTemperatures_30 : decode cX2_takeTemperatures 30 = .ok (.iload_n 1, 1) := by decide +kernel
theorem dX2_takeTemperatures_31 : decode cX2_takeTemperatures 31 = .ok (.iconst 4, 1) := by decide +kernel
theorem dX2_takeTemperatures_32 : decode cX2_takeTemperatures 32 = .ok (.iadd, 1) := by decide +kernel
theorem dX2_takeTemperatures_33 : decode cX2_takeTemperatures 33 = .ok (.goto 6, 3) := by decide +kernel
theorem dX2_takeTemperatures_36 : decode cX2_takeTemperatures 36 = .ok (.iload_n 1, 1) := by decide +kernel
theorem dX2_takeTemperatures_37 : decode cX2_takeTemperatures 37 = .ok (.iconst 3, 1) := by decide +kernel
theorem dX2_takeTemperatures_38 : decode cX2_takeTemperatures 38 = .ok (.iadd, 1) := by decide +kernel
theorem dX2_takeTemperatures_39 : decode cX2_takeTemperatures 39 = .ok (.istore_n 2, 1) := by decide +kernel
theorem dX2_takeTemperatures_40 : decode cX2_takeTemperatures 40 = .ok (.aload_n 0, 1) := by decide +kernel
theorem dX2_takeTemperatures_41 : decode cX2_takeTemperatures 41 = .ok (.getfield 34, 3) := by decide +kernel
theorem dX2_takeTemperatures_44 : decode cX2_takeTemperatures 44 = .ok (.aload_n 0, 1) := by decide +kernel
theorem dX2_takeTemperatures_45 : decode cX2_takeTemperatures 45 = .ok (.iconst 0, 1) := by decide +kernel
theorem dX2_takeTemperatures_46 : decode cX2_takeTemperatures 46 = .ok (.invokevirtual 165, 3) := by decide +kernel
theorem dX2_takeTemperatures_49 : decode cX2_takeTemperatures 49 = .ok (.putfield 168, 3) := by decide +kernel
theorem dX2_takeTemperatures_52 : decode cX2_takeTemperatures 52 = .ok (.aload_n 0, 1) := by decide +kernel
theorem dX2_takeTemperatures_53 : decode cX2_takeTemperatures 53 = .ok (.getfield 34, 3) := by decide +kernel
theorem dX2_takeTemperatures_56 : decode cX2_takeTemperatures 56 = .ok (.aload_n 0, 1) := by decide +kernel
theorem dX2_takeTemperatures_57 : decode cX2_takeTemperatures 57 = .ok (.iload_n 1, 1) := by decide +kernel
theorem dX2_takeTemperatures_58 : decode cX2_takeTemperatures 58 = .ok (.iconst 1, 1) := by decide +kernel
theorem dX2_takeTemperatures_59 : decode cX2_takeTemperatures 59 = .ok (.iadd, 1) := by decide +kernel
theorem dX2_takeTemperatures_60 : decode cX2_takeTemperatures 60 = .ok (.invokevirtual 165, 3) := by decide +kernel
theorem dX2_takeTemperatures_63 : decode cX2_takeTemperatures 63 = .ok (.putfield 171, 3) := by decide +kernel
theorem dX2_takeTemperatures_66 : decode cX2_takeTemperatures 66 = .ok (.aload_n 0, 1) := by decide +kernel
theorem dX2_takeTemperatures_67 : decode cX2_takeTemperatures 67 = .ok (.getfield 18, 3) := by decide +kernel
theorem dX2_takeTemperatures_70 : decode cX2_takeTemperatures 70 = .ok (.iload_n 2, 1) := by decide +kernel
theorem dX2_takeTemperatures_71 : decode cX2_takeTemperatures 71 = .ok (.if_icmp .ne 51, 3) := by decide +kernel
theorem dX2_takeTemperatures_74 : decode cX2_takeTemperatures 74 = .ok (.aload_n 0, 1) := by decide +kernel
theorem dX2_takeTemperatures_75 : decode cX2_takeTemperatures 75 = .ok (.getfield 21, 3) := by decide +kernel
theorem dX2_takeTemperatures_78 : decode cX2_takeTemperatures 78 = .ok (.iload_n 1, 1) := by decide +kernel
theorem dX2_takeTemperatures_79 : decode cX2_takeTemperatures 79 = .ok (.caload, 1) := by decide +kernel
theorem dX2_takeTemperatures_80 : decode cX2_takeTemperatures 80 = .ok (.bipush 47, 2) := by decide +kernel
theorem dX2_takeTemperatures_82 : decode cX2_takeTemperatures 82 = .ok (.if_icmp .ne 40, 3) := by decide +kernel
theorem dX2_takeTemperatures_85 : decode cX2_takeTemperatures 85 = .ok (.aload_n 0, 1) := by decide +kernel
theorem dX2_takeTemperatures_86 : decode cX2_takeTemperatures 86 = .ok (.getfield 34, 3) := by decide +kernel
theorem dX2_takeTemperatures_89 : decode cX2_takeTemperatures 89 = .ok (.getfield 168, 3) := by decide +kernel
theorem dX2_takeTemperatures_92 : decode cX2_takeTemperatures 92 = .ok (.sipush (-1001), 3) := by decide +kernel
theorem dX2_takeTemperatures_95 : decode cX2_takeTemperatures 95 = .ok (.if_icmp .eq 27, 3) := by decide +kernel
theorem dX2_takeTemperatures_98 : decode cX2_takeTemperatures 98 = .ok (.aload_n 0, 1) := by decide +kernel
theorem dX2_takeTemperatures_99 : decode cX2_takeTemperatures 99 = .ok (.getfield 34, 3) := by decide +kernel
theorem dX2_takeTemperatures_102 : decode cX2_takeTemperatures 102 = .ok (.getfield 171, 3) := by decide +kernel
theorem dX2_takeTemperatures_105 : decode cX2_takeTemperatures 105 = .ok (.sipush (-1001), 3) := by decide +kernel
theorem dX2_takeTemperatures_108 : decode cX2_takeTemperatures 108 = .ok (.if_icmp .eq 14, 3) := by decide +kernel
theorem dX2_takeTemperatures_111 : decode cX2_takeTemperatures 111 = .ok (.aload_n 0, 1) := by decide +kernel
theorem dX2_takeTemperatures_112 : decode cX2_takeTemperatures 112 = .ok (.invokevirtual 50, 3) := by decide +kernel
theorem dX2_takeTemperatures_115 : decode cX2_takeTemperatures 115 = .ok (.ifCond .eq 7, 3) := by decide +kernel
theorem dX2_takeTemperatures_118 : decode cX2_takeTemperatures 118 = .ok (.iconst 1, 1) := by decide +kernel
theorem dX2_takeTemperatures_119 : decode cX2_takeTemperatures 119 = .ok (.goto 4, 3) := by decide +kernel
theorem dX2_takeTemperatures_122 : decode cX2_takeTemperatures 122 = .ok (.iconst 0, 1) := by decide +kernel
theorem dX2_takeTemperatures_123 : decode cX2_takeTemperatures 123 = .ok (.ireturn, 1) := by decide +kernel
theorem dX2_takePressure_0 : decode cX2_takePressure 0 = .ok (.aload_n 0, 1) := by decide +kernel
theorem dX2_takePressure_1 : decode cX2_takePressure 1 = .ok (.getfield 34, 3) := by decide +kernel
theorem dX2_takePressure_4 : decode cX2_takePressure 4 = .ok (.aload_n 0, 1) := by decide +kernel
theorem dX2_takePressure_5 : decode cX2_takePressure 5 = .ok (.iconst 1, 1) := by decide +kernel
theorem dX2_takePressure_6 : decode cX2_takePressure 6 = .ok (.iconst 4, 1) := by decide +kernel
theorem dX2_takePressure_7 : decode cX2_takePressure 7 = .ok (.invokevirtual 174, 3) := by decide +kernel
theorem dX2_takePressure_10 : decode cX2_takePressure 10 = .ok (.putfield 177, 3) := by decide +kernel
theorem dX2_takePressure_13 : decode cX2_takePressure 13 = .ok (.aload_n 0, 1) := by decide +kernel
theorem dX2_takePressure_14 : decode cX2_takePressure 14 = .ok (.getfield 18, 3) := by decide +kernel
theorem dX2_takePressure_17 : decode cX2_takePressure 17 = .ok (.iconst 5, 1) := by decide +kernel
theorem dX2_takePressure_18 : decode cX2_takePressure 18 = .ok (.if_icmp .ne 36, 3) := by decide +kernel
theorem dX2_takePressure_21 : decode cX2_takePressure 21 = .ok (.aload_n 0, 1) := by decide +kernel
theorem dX2_takePressure_22 : decode cX2_takePressure 22 = .ok (.getfield 21, 3) := by decide +kernel
theorem dX2_takePressure_25 : decode cX2_takePressure 25 = .ok (.iconst 0, 1) := by decide +kernel
theorem dX2_takePressure_26 : decode cX2_takePressure 26 = .ok (.caload, 1) := by decide +kernel
theorem dX2_takePressure_27 : decode cX2_takePressure 27 = .ok (.bipush 81, 2) := by decide +kernel
theorem dX2_takePressure_29 : decode cX2_takePressure 29 = .ok (.if_icmp .ne 25, 3) := by decide +kernel
theorem dX2_takePressure_32 : decode cX2_takePressure 32 = .ok (.aload_n 0, 1) := by decide +kernel
theorem dX2_takePressure_33 : decode cX2_takePressure 33 = .ok (.getfield 34, 3) := by decide +kernel
theorem dX2_takePressure_36 : decode cX2_takePressure 36 = .ok (.getfield 177, 3) := by decide +kernel
theorem dX2_takePressure_39 : decode cX2_takePressure 39 = .ok (.iconst (-1), 1) := by decide +kernel
theorem dX2_takePressure_40 : decode cX2_takePressure 40 = .ok (.if_icmp .eq 14, 3) := by decide +kernel
theorem dX2_takePressure_43 : decode cX2_takePressure 43 = .ok (.aload_n 0, 1) := by decide +kernel
theorem dX2_takePressure_44 : decode cX2_takePressure 44 = .ok (.invokevirtual 50, 3) := by decide +kernel
theorem dX2_takePressure_47 : decode cX2_takePressure 47 = .ok (.ifCond .eq 7, 3) := by decide +kernel
theorem dX2_takePressure_50 : decode cX2_takePressure 50 = .ok (.iconst 1, 1) := by decide +kernel
theorem dX2_takePressure_51 : decode cX2_takePressure 51 = .ok (.goto 4, 3) := by decide +kernel
theorem dX2_takePressure_54 : decode cX2_takePressure 54 = .ok (.iconst 0, 1) := by decide +kernel
theorem dX2_takePressure_55 : decode cX2_takePressure 55 = .ok (.ireturn, 1) := by decide +kernel
theorem dX2_takeForecastPeriod_0 : decode cX2_takeForecastPeriod 0 = .ok (.aload_n 0, 1) := by decide +kernel
theorem dX2_takeForecastPeriod_1 : decode cX2_takeForecastPeriod 1 = .ok (.getfield 34, 3) := by decide +kernel
theorem dX2_takeForecastPeriod_4 : decode cX2_takeForecastPeriod 4 = .ok (.getfield 162, 3) := by decide +kernel
theorem dX2_takeForecastPeriod_7 : decode cX2_takeForecastPeriod 7 = .ok (.aload_n 0, 1) := by decide +kernel
theorem dX2_takeForecastPeriod_8 : decode cX2_takeForecastPeriod 8 = .ok (.getfield 34, 3) := by decide +kernel
theorem dX2_takeForecastPeriod_11 : decode cX2_takeForecastPeriod 11 = .ok (.getfield 162, 3) := by decide +kernel
theorem dX2_takeForecastPeriod_14 : decode cX2_takeForecastPeriod 14 = .ok (.sipush 1440, 3) := by decide +kernel
theorem dX2_takeForecastPeriod_17 : decode cX2_takeForecastPeriod 17 = .ok (.irem, 1) := by decide +kernel
theorem dX2_takeForecastPeriod_18 : decode cX2_takeForecastPeriod 18 = .ok (.isub, 1) := by decide +kernel
theorem dX2_takeForecastPeriod_19 : decode cX2_takeForecastPeriod 19 = .ok (.istore_n 2, 1) := by decide +kernel
theorem dX2_takeForecastPeriod_20 : decode cX2_takeForecastPeriod 20 = .ok (.aload_n 0, 1) := by decide +kernel
theorem dX2_takeForecastPeriod_21 : decode cX2_takeForecastPeriod 21 = .ok (.aload_n 1, 1) := by decide +kernel
theorem dX2_takeForecastPeriod_22 : decode cX2_takeForecastPeriod 22 = .ok (.iload_n 2, 1) := by decide +kernel
theorem dX2_takeForecastPeriod_23 : decode cX2_takeForecastPeriod 23 = .ok (.invokevirtual 180, 3) := by decide +kernel
theorem dX2_takeForecastPeriod_26 : decode cX2_takeForecastPeriod 26 = .ok (.ifCond .eq 29, 3) := by decide +kernel
theorem dX2_takeForecastPeriod_29 : decode cX2_takeForecastPeriod 29 = .ok (.aload_n 1, 1) := by decide +kernel
theorem dX2_takeForecastPeriod_30 : decode cX2_takeForecastPeriod 30 = .ok (.getfield 184, 3) := by decide +kernel
theorem dX2_takeForecastPeriod_33 : decode cX2_takeForecastPeriod 33 = .ok (.aload_n 1, 1) := by decide +kernel
theorem dX2_takeForecastPeriod_34 : decode cX2_takeForecastPeriod 34 = .ok (.getfield 187, 3) := by decide +kernel
theorem dX2_takeForecastPeriod_37 : decode cX2_takeForecastPeriod 37 = .ok (.isub, 1) := by decide +kernel
theorem dX2_takeForecastPeriod_38 : decode cX2_takeForecastPeriod 38 = .ok (.sipush 1800, 3) := by decide +kernel
theorem dX2_takeForecastPeriod_41 : decode cX2_takeForecastPeriod 41 = .ok (.if_icmp .gt 14, 3) := by decide +kernel
theorem dX2_takeForecastPeriod_44 : decode cX2_takeForecastPeriod 44 = .ok (.aload_n 0, 1) := by decide +kernel
theorem dX2_takeForecastPeriod_45 : decode cX2_takeForecastPeriod 45 = .ok (.invokevirtual 50, 3) := by decide +kernel
theorem dX2_takeForecastPeriod_48 : decode cX2_takeForecastPeriod 48 = .ok (.ifCond .eq 7, 3) := by decide +kernel
theorem dX2_takeForecastPeriod_51 : decode cX2_takeForecastPeriod 51 = .ok (.iconst 1, 1) := by decide +kernel
theorem dX2_takeForecastPeriod_52 : decode cX2_takeForecastPeriod 52 = .ok (.goto 4, 3) := by decide +kernel
theorem dX2_takeForecastPeriod_55 : decode cX2_takeForecastPeriod 55 = .ok (.iconst 0, 1) := by decide +kernel
theorem dX2_takeForecastPeriod_56 : decode cX2_takeForecastPeriod 56 = .ok (.ireturn, 1) := by decide +kernel
theorem dX2_takeChangePeriod_0 : decode cX2_takeChangePeriod 0 = .ok (.aload_n 0, 1) := by decide +kernel
theorem dX2_takeChangePeriod_1 : decode cX2_takeChangePeriod 1 = .ok (.getfield 34, 3) := by decide +kernel
theorem dX2_takeChangePeriod_4 : decode cX2_takeChangePeriod 4 = .ok (.getfield 84, 3) := by decide +kernel
theorem dX2_takeChangePeriod_7 : decode cX2_takeChangePeriod 7 = .ok (.iconst 0, 1) := by decide +kernel
theorem dX2_takeChangePeriod_8 : decode cX2_takeChangePeriod 8 = .ok (.aaload, 1) := by decide +kernel
theorem dX2_takeChangePeriod_9 : decode cX2_takeChangePeriod 9 = .ok (.astore_n 2, 1) := by decide +kernel
theorem dX2_takeChangePeriod_10 : decode cX2_takeChangePeriod 10 = .ok (.aload_n 0, 1) := by decide +kernel
theorem dX2_takeChangePeriod_11 : decode cX2_takeChangePeriod 11 = .ok (.aload_n 1, 1) := by decide +kernel
theorem dX2_takeChangePeriod_12 : decode cX2_takeChangePeriod 12 = .ok (.aload_n 2, 1) := by decide +kernel
theorem dX2_takeChangePeriod_13 : decode cX2_takeChangePeriod 13 = .ok (.getfield 187, 3) := by decide +kernel
theorem dX2_takeChangePeriod_16 : decode cX2_takeChangePeriod 16 = .ok (.invokevirtual 180, 3) := by decide +kernel
theorem dX2_takeChangePeriod_19 : decode cX2_takeChangePeriod 19 = .ok (.ifCond .eq 36, 3) := by decide +kernel
theorem dX2_takeChangePeriod_22 : decode cX2_takeChangePeriod 22 = .ok (.aload_n 1, 1) := by decide +kernel
theorem dX2_takeChangePeriod_23 : decode cX2_takeChangePeriod 23 = .ok (.getfield 187, 3) := by decide +kernel
theorem dX2_takeChangePeriod_26 : decode cX2_takeChangePeriod 26 = .ok (.aload_n 2, 1) := by decide +kernel
theorem dX2_takeChangePeriod_27 : decode cX2_takeChangePeriod 27 = .ok (.getfield 187, 3) := by decide +kernel
theorem dX2_takeChangePeriod_30 : decode cX2_takeChangePeriod 30 = .ok (.if_icmp .lt 25, 3) := by decide +kernel
theorem dX2_takeChangePeriod_33 : decode cX2_takeChangePeriod 33 = .ok (.aload_n 1, 1) := by decide +kernel
theorem dX2_takeChangePeriod_34 : decode cX2_takeChangePeriod 34 = .ok (.getfield 184, 3) := by decide +kernel
theorem dX2_takeChangePeriod_37 : decode cX2_takeChangePeriod 37 = .ok (.aload_n 2, 1) := by decide +kernel
theorem dX2_takeChangePeriod_38 : decode cX2_takeChangePeriod 38 = .ok (.getfield 184, 3) := by decide +kernel
theorem dX2_takeChangePeriod_41 : decode cX2_takeChangePeriod 41 = .ok (.if_icmp .gt 14, 3) := by decide +kernel
theorem dX2_takeChangePeriod_44 : decode cX2_takeChangePeriod 44 = .ok (.aload_n 0, 1) := by decide +kernel
theorem dX2_takeChangePeriod_45 : decode cX2_takeChangePeriod 45 = .ok (.invokevirtual 50, 3) := by decide +kernel
theorem dX2_takeChangePeriod_48 : decode cX2_takeChangePeriod 48 = .ok (.ifCond .eq 7, 3) := by decide +kernel
theorem dX2_takeChangePeriod_51 : decode cX2_takeChangePeriod 51 = .ok (.iconst 1, 1) := by decide +kernel
theorem dX2_takeChangePeriod_52 : decode cX2_takeChangePeriod 52 = .ok (.goto 4, 3) := by decide +kernel
theorem dX2_takeChangePeriod_55 : decode cX2_takeChangePeriod 55 = .ok (.iconst 0, 1) := by decide +kernel
theorem dX2_takeChangePeriod_56 : decode cX2_takeChangePeriod 56 = .ok (.ireturn, 1) := by decide +kernel
theorem dX2_findPeriod_0 : decode cX2_findPeriod 0 = .ok (.aload_n 0, 1) := by decide +kernel
theorem dX2_findPeriod_1 : decode cX2_findPeriod 1 = .ok (.iconst 0, 1) := by decide +kernel
theorem dX2_findPeriod_2 : decode cX2_findPeriod 2 = .ok (.bipush 23, 2) := by decide +kernel
theorem dX2_findPeriod_4 : decode cX2_findPeriod 4 = .ok (.invokevirtual 190, 3) := by decide +kernel
theorem dX2_findPeriod_7 : decode cX2_findPeriod 7 = .ok (.istore_n 3, 1) := by decide +kernel
theorem dX2_findPeriod_8 : decode cX2_findPeriod 8 = .ok (.aload_n 0, 1) := by decide +kernel
theorem dX2_findPeriod_9 : decode cX2_findPeriod 9 = .ok (.iconst 5, 1) := by decide +kernel
theorem dX2_findPeriod_10 : decode cX2_findPeriod 10 = .ok (.bipush 24, 2) := by decide +kernel
theorem dX2_findPeriod_12 : decode cX2_findPeriod 12 = .ok (.invokevirtual 190, 3) := by decide +kernel
theorem dX2_findPeriod_15 : decode cX2_findPeriod 15 = .ok (.istore 4, 2) := by decide +kernel
theorem dX2_findPeriod_17 : decode cX2_findPeriod 17 = .ok (.aload_n 0, 1) := by decide +kernel
theorem dX2_findPeriod_18 : decode cX2_findPeriod 18 = .ok (.getfield 18, 3) := by decide +kernel
theorem dX2_findPeriod_21 : decode cX2_findPeriod 21 = .ok (.bipush 9, 2) := by decide +kernel
theorem dX2_findPeriod_23 : decode cX2_findPeriod 23 = .ok (.if_icmp .ne 25, 3) := by decide +kernel
theorem dX2_findPeriod_26 : decode cX2_findPeriod 26 = .ok (.aload_n 0, 1) := by decide +kernel
theorem dX2_findPeriod_27 : decode cX2_findPeriod 27 = .ok (.getfield 21, 3) := by decide +kernel
theorem dX2_findPeriod_30 : decode cX2_findPeriod 30 = .ok (.iconst 4, 1) := by decide +kernel
theorem dX2_findPeriod_31 : decode cX2_findPeriod 31 = .ok (.caload, 1) := by decide +kernel
theorem dX2_findPeriod_32 : decode cX2_findPeriod 32 = .ok (.bipush 47, 2) := by decide +kernel
theorem dX2_findPeriod_34 : decode cX2_findPeriod 34 = .ok (.if_icmp .ne 14, 3) := by decide +kernel
theorem dX2_findPeriod_37 : decode cX2_findPeriod 37 = .ok (.iload_n 3, 1) := by decide +kernel
theorem dX2_findPeriod_38 : decode cX2_findPeriod 38 = .ok (.iconst (-1), 1) := by decide +kernel
theorem dX2_findPeriod_39 : decode cX2_findPeriod 39 = .ok (.if_icmp .eq 9, 3) := by decide +kernel
theorem dX2_findPeriod_42 : decode cX2_findPeriod 42 = .ok (.iload 4, 2) := by decide +kernel
theorem dX2_findPeriod_44 : decode cX2_findPeriod 44 = .ok (.iconst (-1), 1) := by decide +kernel
theorem dX2_findPeriod_45 : decode cX2_findPeriod 45 = .ok (.if_icmp .ne 5, 3) := by decide +kernel
theorem dX2_findPeriod_48 : decode cX2_findPeriod 48 = .ok (.iconst 0, 1) := by decide +kernel
theorem dX2_findPeriod_49 : decode cX2_findPeriod 49 = .ok (.ireturn, 1) := by decide +kernel
theorem dX2_findPeriod_50 : decode cX2_findPeriod 50 = .ok (.iload_n 3, 1) := by decide +kernel
theorem dX2_findPeriod_51 : decode cX2_findPeriod 51 = .ok (.iload_n 2, 1) := by decide +kernel
theorem dX2_findPeriod_52 : decode cX2_findPeriod 52 = .ok (.if_icmp .ge 7, 3) := by decide +kernel
theorem dX2_findPeriod_55 : decode cX2_findPeriod 55 = .ok (.iconst 1, 1) := by decide +kernel
theorem dX2_findPeriod_56 : decode cX2_findPeriod 56 = .ok (.goto 4, 3) := by decide +kernel
theorem dX2_findPeriod_59 : decode cX2_findPeriod 59 = .ok (.iconst 0, 1) := by decide +kernel
theorem dX2_findPeriod_60 : decode cX2_findPeriod 60 = .ok (.istore 5, 2) := by decide +kernel
theorem dX2_findPeriod_62 : decode cX2_findPeriod 62 = .ok (.aload_n 1, 1) := by decide +kernel
theorem dX2_findPeriod_63 : decode cX2_findPeriod 63 = .ok (.iload 5, 2) := by decide +kernel
theorem dX2_findPeriod_65 : decode cX2_findPeriod 65 = .ok (.ifCond .eq 16, 3) := by decide +kernel
theorem dX2_findPeriod_68 : decode cX2_findPeriod 68 = .ok (.iload_n 3, 1) := by decide +kernel
theorem dX2_findPeriod_69 : decode cX2_findPeriod 69 = .ok (.aload_n 0, 1) := by decide +kernel
theorem dX2_findPeriod_70 : decode cX2_findPeriod 70 = .ok (.getfield 25, 3) := by decide +kernel
theorem dX2_findPeriod_73 : decode cX2_findPeriod 73 = .ok (.sipush 1440, 3) := by decide +kernel
theorem dX2_findPeriod_76 : decode cX2_findPeriod 76 = .ok (.imul, 1) := by decide +kernel
theorem dX2_findPeriod_77 : decode cX2_findPeriod 77 = .ok (.iadd, 1) := by decide +kernel
theorem dX2_findPeriod_78 : decode cX2_findPeriod 78 = .ok (.goto 4, 3) := by decide +kernel
theorem dX2_findPeriod_81 : decode cX2_findPeriod 81 = .ok (.iload_n 3, 1) := by decide +kernel
theorem dX2_findPeriod_82 : decode cX2_findPeriod 82 = .ok (.putfield 187, 3) := by decide +kernel
theorem dX2_findPeriod_85 : decode cX2_findPeriod 85 = .ok (.aload_n 1, 1) := by decide +kernel
theorem dX2_findPeriod_86 : decode cX2_findPeriod 86 = .ok (.iload 5, 2) := by decide +kernel
theorem dX2_findPeriod_88 : decode cX2_findPeriod 88 = .ok (.ifCond .ne 9, 3) := by decide +kernel
theorem dX2_findPeriod_91 : decode cX2_findPeriod 91 = .ok (.iload 4, 2) := by decide +kernel
theorem dX2_findPeriod_93 : decode cX2_findPeriod 93 = .ok (.iload_n 3, 1) := by decide +kernel
theorem dX2_findPeriod_94 : decode cX2_findPeriod 94 = .ok (.if_icmp .gt 17, 3) := by decide +kernel
theorem dX2_findPeriod_97 : decode cX2_findPeriod 97 = .ok (.iload 4, 2) := by decide +kernel
theorem dX2_findPeriod_99 : decode cX2_findPeriod 99 = .ok (.aload_n 0, 1) := by decide +kernel
theorem dX2_findPeriod_100 : decode cX2_findPeriod 100 = .ok (.getfield 25, 3) := by decide +kernel
theorem dX2_findPeriod_103 : decode cX2_findPeriod 103 = .ok (.sipush 1440, 3) := by decide +kernel
theorem dX2_findPeriod_106 : decode cX2_findPeriod 106 = .ok (.imul, 1) := by decide +kernel
theorem dX2_findPeriod_107 : decode cX2_findPeriod 107 = .ok (.iadd, 1) := by decide +kernel
theorem dX2_findPeriod_108 : decode cX2_findPeriod 108 = .ok (.goto 5, 3) := by decide +kernel
theorem dX2_findPeriod_111 : decode cX2_findPeriod 111 = .ok (.iload 4, 2) := by decide +kernel
theorem dX2_findPeriod_113 : decode cX2_findPeriod 113 = .ok (.putfield 184, 3) := by decide +kernel
theorem dX2_findPeriod_116 : decode cX2_findPeriod 116 = .ok (.aload_n 1, 1) := by decide +kernel
theorem dX2_findPeriod_117 : decode cX2_findPeriod 117 = .ok (.getfield 184, 3) := by decide +kernel
theorem dX2_findPeriod_120 : decode cX2_findPeriod 120 = .ok (.aload_n 1, 1) := by decide +kernel
theorem dX2_findPeriod_121 : decode cX2_findPeriod 121 = .ok (.getfield 187, 3) := by decide +kernel
theorem dX2_findPeriod_124 : decode cX2_findPeriod 124 = .ok (.if_icmp .le 7, 3) := by decide +kernel
theorem dX2_findPeriod_127 : decode cX2_findPeriod 127 = .ok (.iconst 1, 1) := by decide +kernel
theorem dX2_findPeriod_128 : decode cX2_findPeriod 128 = .ok (.goto 4, 3) := by decide +kernel
theorem dX2_findPeriod_131 : decode cX2_findPeriod 131 = .ok (.iconst 0, 1) := by decide +kernel
theorem dX2_findPeriod_132 : decode cX2_findPeriod 132 = .ok (.ireturn, 1) := by decide +kernel
theorem dX2_takeFromTime_0 : decode cX2_takeFromTime 0 = .ok (.aload_n 0, 1) := by decide +kernel
theorem dX2_takeFromTime_1 : decode cX2_takeFromTime 1 = .ok (.getfield 34, 3) := by decide +kernel
theorem dX2_takeFromTime_4 : decode cX2_takeFromTime 4 = .ok (.getfield 84, 3) := by decide +kernel
theorem dX2_takeFromTime_7 : decode cX2_takeFromTime 7 = .ok (.iconst 0, 1) := by decide +kernel
theorem dX2_takeFromTime_8 : decode cX2_takeFromTime 8 = .ok (.aaload, 1) := by decide +kernel
theorem dX2_takeFromTime_9 : decode cX2_takeFromTime 9 = .ok (.astore_n 2, 1) := by decide +kernel
theorem dX2_takeFromTime_10 : decode cX2_takeFromTime 10 = .ok (.aload_n 0, 1) := by decide +kernel
theorem dX2_takeFromTime_11 : decode cX2_takeFromTime 11 = .ok (.iconst 2, 1) := by decide +kernel
theorem dX2_takeFromTime_12 : decode cX2_takeFromTime 12 = .ok (.invokevirtual 158, 3) := by decide +kernel
theorem dX2_takeFromTime_15 : decode cX2_takeFromTime 15 = .ok (.istore_n 3, 1) := by decide +kernel
theorem dX2_takeFromTime_16 : decode cX2_takeFromTime 16 = .ok (.aload_n 0, 1) := by decide +kernel
theorem dX2_takeFromTime_17 : decode cX2_takeFromTime 17 = .ok (.getfield 18, 3) := by decide +kernel
theorem dX2_takeFromTime_20 : decode cX2_takeFromTime 20 = .ok (.bipush 8, 2) := by decide +kernel
theorem dX2_takeFromTime_22 : decode cX2_takeFromTime 22 = .ok (.if_icmp .ne 18, 3) := by decide +kernel
theorem dX2_takeFromTime_25 : decode cX2_takeFromTime 25 = .ok (.aload_n 0, 1) := by decide +kernel
theorem dX2_takeFromTime_26 : decode cX2_takeFromTime 26 = .ok (.iconst 0, 1) := by decide +kernel
theorem dX2_takeFromTime_27 : decode cX2_takeFromTime 27 = .ok (.ldc 193, 2) := by decide +kernel
theorem dX2_takeFromTime_29 : decode cX2_takeFromTime 29 = .ok (.invokevirtual 195, 3) := by decide +kernel
theorem dX2_takeFromTime_32 : decode cX2_takeFromTime 32 = .ok (.ifCond .eq 8, 3) := by decide +kernel
theorem dX2_takeFromTime_35 : decode cX2_takeFromTime 35 = .ok (.iload_n 3, 1) := by decide +kernel
theorem dX2_takeFromTime_36 : decode cX2_takeFromTime 36 = .ok (.iconst (-1), 1) := by decide +kernel
theorem dX2_takeFromTime_37 : decode cX2_takeFromTime 37 = .ok (.if_icmp .ne 5, 3) := by decide +kernel
theorem dX2_takeFromTime_40 : decode cX2_takeFromTime 40 = .ok (.iconst 0, 1) := by decide +kernel
theorem dX2_takeFromTime_41 : decode cX2_takeFromTime 41 = .ok (.ireturn, 1) := by decide +kernel
theorem dX2_takeFromTime_42 : decode cX2_takeFromTime 42 = .ok (.iload_n 3, 1) := by decide +kernel
theorem dX2_takeFromTime_43 : decode cX2_takeFromTime 43 = .ok (.aload_n 2, 1) := by decide +kernel
theorem dX2_takeFromTime_44 : decode cX2_takeFromTime 44 = .ok (.getfield 187, 3) := by decide +kernel
theorem dX2_takeFromTime_47 : decode cX2_takeFromTime 47 = .ok (.if_icmp .ge 14, 3) := by decide +kernel
theorem dX2_takeFromTime_50 : decode cX2_takeFromTime 50 = .ok (.iload_n 3, 1) := by decide +kernel
theorem dX2_takeFromTime_51 : decode cX2_takeFromTime 51 = .ok (.aload_n 0, 1) := by decide +kernel
theorem dX2_takeFromTime_52 : decode cX2_takeFromTime 52 = .ok (.getfield 25, 3) := by decide +kernel
theorem dX2_takeFromTime_55 : decode cX2_takeFromTime 55 = .ok (.sipush 1440, 3) := by decide +kernel
theorem dX2_takeFromTime_58 : decode cX2_takeFromTime 58 = .ok (.imul, 1) := by decide +kernel
theorem dX2_takeFromTime_59 : decode cX2_takeFromTime 59 = .ok (.iadd, 1) := by decide +kernel
theorem dX2_takeFromTime_60 : decode cX2_takeFromTime 60 = .ok (.istore_n 3, 1) := by decide +kernel
theorem dX2_takeFromTime_61 : decode cX2_takeFromTime 61 = .ok (.iload_n 3, 1) := by decide +kernel
theorem dX2_takeFromTime_62 : decode cX2_takeFromTime 62 = .ok (.aload_n 2, 1) := by decide +kernel
theorem dX2_takeFromTime_63 : decode cX2_takeFromTime 63 = .ok (.getfield 187, 3) := by decide +kernel
theorem dX2_takeFromTime_66 : decode cX2_takeFromTime 66 = .ok (.if_icmp .lt 19, 3) := by decide +kernel
theorem dX2_takeFromTime_69 : decode cX2_takeFromTime 69 = .ok (.iload_n 3, 1) := by decide +kernel
theorem dX2_takeFromTime_70 : decode cX2_takeFromTime 70 = .ok (.aload_n 2, 1) := by decide +kernel
theorem dX2_takeFromTime_71 : decode cX2_takeFromTime 71 = .ok (.getfield 184, 3) := by decide +kernel
theorem dX2_takeFromTime_74 : decode cX2_takeFromTime 74 = .ok (.if_icmp .ge 11, 3) := by decide +kernel
theorem dX2_takeFromTime_77 : decode cX2_takeFromTime 77 = .ok (.iload_n 3, 1) := by decide +kernel
theorem dX2_takeFromTime_78 : decode cX2_takeFromTime 78 = .ok (.aload_n 0, 1) := by decide +kernel
theorem dX2_takeFromTime_79 : decode cX2_takeFromTime 79 = .ok (.getfield 28, 3) := by decide +kernel
theorem dX2_takeFromTime_82 : decode cX2_takeFromTime 82 = .ok (.if_icmp .gt 5, 3) := by decide +kernel
theorem dX2_takeFromTime_85 : decode cX2_takeFromTime 85 = .ok (.iconst 0, 1) := by decide +kernel
theorem dX2_takeFromTime_86 : decode cX2_takeFromTime 86 = .ok (.ireturn, 1) := by decide +kernel
theorem dX2_takeFromTime_87 : decode cX2_takeFromTime 87 = .ok (.aload_n 0, 1) := by decide +kernel
theorem dX2_takeFromTime_88 : decode cX2_takeFromTime 88 = .ok (.iload_n 3, 1) := by decide +kernel
theorem dX2_takeFromTime_89 : decode cX2_takeFromTime 89 = .ok (.putfield 28, 3) := by decide +kernel
theorem dX2_takeFromTime_92 : decode cX2_takeFromTime 92 = .ok (.aload_n 1, 1) := by decide +kernel
theorem dX2_takeFromTime_93 : decode cX2_takeFromTime 93 = .ok (.iconst 1, 1) := by decide +kernel
theorem dX2_takeFromTime_94 : decode cX2_takeFromTime 94 = .ok (.putfield 118, 3) := by decide +kernel
theorem dX2_takeFromTime_97 : decode cX2_takeFromTime 97 = .ok (.aload_n 1, 1) := by decide +kernel
theorem dX2_takeFromTime_98 : decode cX2_takeFromTime 98 = .ok (.iload_n 3, 1) := by decide +kernel
theorem dX2_takeFromTime_99 : decode cX2_takeFromTime 99 = .ok (.putfield 187, 3) := by decide +kernel
theorem dX2_takeFromTime_102 : decode cX2_takeFromTime 102 = .ok (.aload_n 1, 1) := by decide +kernel
theorem dX2_takeFromTime_103 : decode cX2_takeFromTime 103 = .ok (.aload_n 2, 1) := by decide +kernel
theorem dX2_takeFromTime_104 : decode cX2_takeFromTime 104 = .ok (.getfield 184, 3) := by decide +kernel
theorem dX2_takeFromTime_107 : decode cX2_takeFromTime 107 = .ok (.putfield 184, 3) := by decide +kernel
theorem dX2_takeFromTime_110 : decode cX2_takeFromTime 110 = .ok (.aload_n 0, 1) := by decide +kernel
theorem dX2_takeFromTime_111 : decode cX2_takeFromTime 111 = .ok (.invokevirtual 50, 3) := by decide +kernel
theorem dX2_takeFromTime_114 : decode cX2_takeFromTime 114 = .ok (.ireturn, 1) := by decide +kernel
theorem dX2_takeWind_0 : decode cX2_takeWind 0 = .ok (.aload_n 0, 1) := by decide +kernel
theorem dX2_takeWind_1 : decode cX2_takeWind 1 = .ok (.iconst 0, 1) := by decide +kernel
theorem dX2_takeWind_2 : decode cX2_takeWind 2 = .ok (.ldc 199, 2) := by decide +kernel
theorem dX2_takeWind_4 : decode cX2_takeWind 4 = .ok (.invokevirtual 195, 3) := by decide +kernel
theorem dX2_takeWind_7 : decode cX2_takeWind 7 = .ok (.istore_n 2, 1) := by decide +kernel
theorem dX2_takeWind_8 : decode cX2_takeWind 8 = .ok (.aload_n 0, 1) := by decide +kernel
theorem dX2_takeWind_9 : decode cX2_takeWind 9 = .ok (.iconst 0, 1) := by decide +kernel
theorem dX2_takeWind_10 : decode cX2_takeWind 10 = .ok (.iconst 3, 1) := by decide +kernel
theorem dX2_takeWind_11 : decode cX2_takeWind 11 = .ok (.invokevirtual 174, 3) := by decide +kernel
theorem dX2_takeWind_14 : decode cX2_takeWind 14 = .ok (.istore_n 3, 1) := by decide +kernel
theorem dX2_takeWind_15 : decode cX2_takeWind 15 = .ok (.iload_n 3, 1) := by decide +kernel
theorem dX2_takeWind_16 : decode cX2_takeWind 16 = .ok (.iconst (-1), 1) := by decide +kernel
theorem dX2_takeWind_17 : decode cX2_takeWind 17 = .ok (.if_icmp .eq 21, 3) := by decide +kernel
theorem dX2_takeWind_20 : decode cX2_takeWind 20 = .ok (.iload_n 3, 1) := by decide +kernel
theorem dX2_takeWind_21 : decode cX2_takeWind 21 = .ok (.sipush 360, 3) := by decide +kernel
theorem dX2_takeWind_24 : decode cX2_takeWind 24 = .ok (.if_icmp .gt 14, 3) := by decide +kernel
theorem dX2_takeWind_27 : decode cX2_takeWind 27 = .ok (.iload_n 3, 1) := by decide +kernel
theorem dX2_takeWind_28 : decode cX2_takeWind 28 = .ok (.bipush 10, 2) := by decide +kernel
theorem dX2_takeWind_30 : decode cX2_takeWind 30 = .ok (.irem, 1) := by decide +kernel
theorem dX2_takeWind_31 : decode cX2_takeWind 31 = .ok (.ifCond .ne 7, 3) := by decide +kernel
theorem dX2_takeWind_34 : decode cX2_takeWind 34 = .ok (.iconst 1, 1) := by decide +kernel
theorem dX2_takeWind_35 : decode cX2_takeWind 35 = .ok (.goto 4, 3) := by decide +kernel
theorem dX2_takeWind_38 : decode cX2_takeWind 38 = .ok (.iconst 0, 1) := by decide +kernel
theorem dX2_takeWind_39 : decode cX2_takeWind 39 = .ok (.istore 4, 2) := by decide +kernel
theorem dX2_takeWind_41 : decode cX2_takeWind 41 = .ok (.aload_n 0, 1) := by decide +kernel
theorem dX2_takeWind_42 : decode cX2_takeWind 42 = .ok (.iconst 3, 1) := by decide +kernel
theorem dX2_takeWind_43 : decode cX2_takeWind 43 = .ok (.iconst 2, 1) := by decide +kernel
theorem dX2_takeWind_44 : decode cX2_takeWind 44 = .ok (.invokevirtual 174, 3) := by decide +kernel
theorem dX2_takeWind_47 : decode cX2_takeWind 47 = .ok (.istore 5, 2) := by decide +kernel
theorem dX2_takeWind_49 : decode cX2_takeWind 49 = .ok (.aload_n 0, 1) := by decide +kernel
theorem dX2_takeWind_50 : decode cX2_takeWind 50 = .ok (.getfield 21, 3) := by decide +kernel
theorem dX2_takeWind_53 : decode cX2_takeWind 53 = .ok (.iconst 5, 1) := by decide +kernel
theorem dX2_takeWind_54 : decode cX2_takeWind 54 = .ok (.caload, 1) := by decide +kernel
theorem dX2_takeWind_55 : decode cX2_takeWind 55 = .ok (.bipush 71, 2) := by decide +kernel
theorem dX2_takeWind_57 : decode cX2_takeWind 57 = .ok (.if_icmp .ne 7, 3) := by decide +kernel
theorem dX2_takeWind_60 : decode cX2_takeWind 60 = .ok (.iconst 1, 1) := by decide +kernel
theorem dX2_takeWind_61 : decode cX2_takeWind 61 = .ok (.goto 4, 3) := by decide +kernel
theorem dX2_takeWind_64 : decode cX2_takeWind 64 = .ok (.iconst 0, 1) := by decide +kernel
theorem dX2_takeWind_65 : decode cX2_takeWind 65 = .ok (.istore 6, 2) := by decide +kernel
theorem dX2_takeWind_67 : decode cX2_takeWind 67 = .ok (.iload 6, 2) := by decide +kernel
theorem dX2_takeWind_69 : decode cX2_takeWind 69 = .ok (.ifCond .eq 13, 3) := by decide +kernel
theorem dX2_takeWind_72 : decode cX2_takeWind 72 = .ok (.aload_n 0, 1) := by decide +kernel
theorem dX2_takeWind_73 : decode cX2_takeWind 73 = .ok (.bipush 6, 2) := by decide +kernel
theorem dX2_takeWind_75 : decode cX2_takeWind 75 = .ok (.iconst 2, 1) := by decide +kernel
theorem dX2_takeWind_76 : decode cX2_takeWind 76 = .ok (.invokevirtual 174, 3) := by decide +kernel
theorem dX2_takeWind_79 : decode cX2_takeWind 79 = .ok (.goto 4, 3) := by decide +kernel
theorem dX2_takeWind_82 : decode cX2_takeWind 82 = .ok (.iconst 0, 1) := by decide +kernel
theorem dX2_takeWind_83 : decode cX2_takeWind 83 = .ok (.istore 7, 2) := by decide +kernel
theorem dX2_takeWind_85 : decode cX2_takeWind 85 = .ok (.iload 6, 2) := by decide +kernel
theorem dX2_takeWind_87 : decode cX2_takeWind 87 = .ok (.ifCond .eq 8, 3) := by decide +kernel
theorem dX2_takeWind_90 : decode cX2_takeWind 90 = .ok (.bipush 8, 2) := by decide +kernel
theorem dX2_takeWind_92 : decode cX2_takeWind 92 = .ok (.goto 4, 3) := by decide +kernel
theorem dX2_takeWind_95 : decode cX2_takeWind 95 = .ok (.iconst 5, 1) := by decide +kernel
theorem dX2_takeWind_96 : decode cX2_takeWind 96 = .ok (.istore 8, 2) := by decide +kernel
theorem dX2_takeWind_98 : decode cX2_takeWind 98 = .ok (.iload_n 2, 1) := by decide +kernel
theorem dX2_takeWind_99 : decode cX2_takeWind 99 = .ok (.ifCond .ne 8, 3) := by decide +kernel
theorem dX2_takeWind_102 : decode cX2_takeWind 102 = .ok (.iload 4, 2) := by decide +kernel
theorem dX2_takeWind_104 : decode cX2_takeWind 104 = .ok (.ifCond .eq 21, 3) := by decide +kernel
theorem dX2_takeWind_107 : decode cX2_takeWind 107 = .ok (.iload 5, 2) := by decide +kernel
theorem dX2_takeWind_109 : decode cX2_takeWind 109 = .ok (.iconst (-1), 1) := by decide +kernel
theorem dX2_takeWind_110 : decode cX2_takeWind 110 = .ok (.if_icmp .eq 15, 3) := by decide +kernel
theorem dX2_takeWind_113 : decode cX2_takeWind 113 = .ok (.iload 6, 2) := by decide +kernel
theorem dX2_takeWind_115 : decode cX2_takeWind 115 = .ok (.ifCond .eq 12, 3) := by decide +kernel
theorem dX2_takeWind_118 : decode cX2_takeWind 118 = .ok (.iload 7, 2) := by decide +kernel
theorem dX2_takeWind_120 : decode cX2_takeWind 120 = .ok (.iload 5, 2) := by decide +kernel
theorem dX2_takeWind_122 : decode cX2_takeWind 122 = .ok (.if_icmp .gt 5, 3) := by decide +kernel
theorem dX2_takeWind_125 : decode cX2_takeWind 125 = .ok (.iconst 0, 1) := by decide +kernel
theorem dX2_takeWind_126 : decode cX2_takeWind 126 = .ok (.ireturn, 1) := by decide +kernel
theorem dX2_takeWind_127 : decode cX2_takeWind 127 = .ok (.aload_n 0, 1) := by decide +kernel
theorem dX2_takeWind_128 : decode cX2_takeWind 128 = .ok (.iload 8, 2) := by decide +kernel
theorem dX2_takeWind_130 : decode cX2_takeWind 130 = .ok (.ldc 201, 2) := by decide +kernel
theorem dX2_takeWind_132 : decode cX2_takeWind 132 = .ok (.invokevirtual 195, 3) := by decide +kernel
theorem dX2_takeWind_135 : decode cX2_takeWind 135 = .ok (.ifCond .eq 14, 3) := by decide +kernel
theorem dX2_takeWind_138 : decode cX2_takeWind 138 = .ok (.aload_n 0, 1) := by decide +kernel
theorem dX2_takeWind_139 : decode cX2_takeWind 139 = .ok (.getfield 18, 3) := by decide +kernel
theorem dX2_takeWind_142 : decode cX2_takeWind 142 = .ok (.iload 8, 2) := by decide +kernel
theorem dX2_takeWind_144 : decode cX2_takeWind 144 = .ok (.iconst 2, 1) := by decide +kernel
theorem dX2_takeWind_145 : decode cX2_takeWind 145 = .ok (.iadd, 1) := by decide +kernel
theorem dX2_takeWind_146 : decode cX2_takeWind 146 = .ok (.if_icmp .eq 5, 3) := by decide +kernel
theorem dX2_takeWind_149 : decode cX2_takeWind 149 = .ok (.iconst 0, 1) := by decide +kernel
theorem dX2_takeWind_150 : decode cX2_takeWind 150 = .ok (.ireturn, 1) := by decide +kernel
theorem dX2_takeWind_151 : decode cX2_takeWind 151 = .ok (.aload_n 1, 1) := by decide +kernel
theorem dX2_takeWind_152 : decode cX2_takeWind 152 = .ok (.iload_n 2, 1) := by decide +kernel
theorem dX2_takeWind_153 : decode cX2_takeWind 153 = .ok (.ifCond .eq 8, 3) := by decide +kernel
theorem dX2_takeWind_156 : decode cX2_takeWind 156 = .ok (.bipush (-2), 2) := by decide +kernel
theorem dX2_takeWind_158 : decode cX2_takeWind 158 = .ok (.goto 4, 3) := by decide +kernel
theorem dX2_takeWind_161 : decode cX2_takeWind 161 = .ok (.iload_n 3, 1) := by decide +kernel
theorem dX2_takeWind_162 : decode cX2_takeWind 162 = .ok (.putfield 203, 3) := by decide +kernel
theorem dX2_takeWind_165 : decode cX2_takeWind 165 = .ok (.aload_n 1, 1) := by decide +kernel
theorem dX2_takeWind_166 : decode cX2_takeWind 166 = .ok (.iload 5, 2) := by decide +kernel
theorem dX2_takeWind_168 : decode cX2_takeWind 168 = .ok (.putfield 206, 3) := by decide +kernel
theorem dX2_takeWind_171 : decode cX2_takeWind 171 = .ok (.aload_n 1, 1) := by decide +kernel
theorem dX2_takeWind_172 : decode cX2_takeWind 172 = .ok (.iload 7, 2) := by decide +kernel
theorem dX2_takeWind_174 : decode cX2_takeWind 174 = .ok (.putfield 209, 3) := by decide +kernel
theorem dX2_takeWind_177 : decode cX2_takeWind 177 = .ok (.aload_n 0, 1) := by decide +kernel
theorem dX2_takeWind_178 : decode cX2_takeWind 178 = .ok (.invokevirtual 50, 3) := by decide +kernel
theorem dX2_takeWind_181 : decode cX2_takeWind 181 = .ok (.ireturn, 1) := by decide +kernel
theorem dX2_takeCavok_0 : decode cX2_takeCavok 0 = .ok (.aload_n 0, 1) := by decide +kernel
theorem dX2_takeCavok_1 : decode cX2_takeCavok 1 = .ok (.ldc 212, 2) := by decide +kernel
theorem dX2_takeCavok_3 : decode cX2_takeCavok 3 = .ok (.invokevirtual 72, 3) := by decide +kernel
theorem dX2_takeCavok_6 : decode cX2_takeCavok 6 = .ok (.ifCond .ne 5, 3) := by decide +kernel
theorem dX2_takeCavok_9 : decode cX2_takeCavok 9 = .ok (.iconst 0, 1) := by decide +kernel
theorem dX2_takeCavok_10 : decode cX2_takeCavok 10 = .ok (.ireturn, 1) := by decide +kernel
theorem dX2_takeCavok_11 : decode cX2_takeCavok 11 = .ok (.aload_n 1, 1) := by decide +kernel
theorem dX2_takeCavok_12 : decode cX2_takeCavok 12 = .ok (.sipush 10000, 3) := by decide +kernel
theorem dX2_takeCavok_15 : decode cX2_takeCavok 15 = .ok (.putfield 214, 3) := by decide +kernel
theorem dX2_takeCavok_18 : decode cX2_takeCavok 18 = .ok (.aload_n 1, 1) := by decide +kernel
theorem dX2_takeCavok_19 : decode cX2_takeCavok 19 = .ok (.iconst 0, 1) := by decide +kernel
theorem dX2_takeCavok_20 : decode cX2_takeCavok 20 = .ok (.putfield 139, 3) := by decide +kernel
theorem dX2_takeCavok_23 : decode cX2_takeCavok 23 = .ok (.aload_n 1, 1) := by decide +kernel
theorem dX2_takeCavok_24 : decode cX2_takeCavok 24 = .ok (.iconst 0, 1) := by decide +kernel
theorem dX2_takeCavok_25 : decode cX2_takeCavok 25 = .ok (.putfield 217, 3) := by decide +kernel
theorem dX2_takeCavok_28 : decode cX2_takeCavok 28 = .ok (.iconst 1, 1) := by decide +kernel
theorem dX2_takeCavok_29 : decode cX2_takeCavok 29 = .ok (.ireturn, 1) := by decide +kernel
theorem dX2_takeVisibility_0 : decode cX2_takeVisibility 0 = .ok (.aload_n 0, 1) := by decide +kernel
theorem dX2_takeVisibility_1 : decode cX2_takeVisibility 1 = .ok (.iconst 0, 1) := by decide +kernel
theorem dX2_takeVisibility_2 : decode cX2_takeVisibility 2 = .ok (.iconst 4, 1) := by decide +kernel
theorem dX2_takeVisibility_3 : decode cX2_takeVisibility 3 = .ok (.invokevirtual 174, 3) := by decide +kernel
theorem dX2_takeVisibility_6 : decode cX2_takeVisibility 6 = .ok (.istore_n 2, 1) := by decide +kernel
theorem dX2_takeVisibility_7 : decode cX2_takeVisibility 7 = .ok (.aload_n 0, 1) := by decide +kernel
theorem dX2_takeVisibility_8 : decode cX2_takeVisibility 8 = .ok (.getfield 18, 3) := by decide +kernel
theorem dX2_takeVisibility_11 : decode cX2_takeVisibility 11 = .ok (.iconst 4, 1) := by decide +kernel
theorem dX2_takeVisibility_12 : decode cX2_takeVisibility 12 = .ok (.if_icmp .ne 8, 3) := by decide +kernel
theorem dX2_takeVisibility_15 : decode cX2_takeVisibility 15 = .ok (.iload_n 2, 1) := by decide +kernel
theorem dX2_takeVisibility_16 : decode cX2_takeVisibility 16 = .ok (.iconst (-1), 1) := by decide +kernel
theorem dX2_takeVisibility_17 : decode cX2_takeVisibility 17 = .ok (.if_icmp .ne 5, 3) := by decide +kernel
theorem dX2_takeVisibility_20 : decode cX2_takeVisibility 20 = .ok (.iconst 0, 1) := by decide +kernel
theorem dX2_takeVisibility_21 : decode cX2_takeVisibility 21 = .ok (.ireturn, 1) := by decide +kernel
theorem dX2_takeVisibility_22 : decode cX2_takeVisibility 22 = .ok (.aload_n 1, 1) := by decide +kernel
theorem dX2_takeVisibility_23 : decode cX2_takeVisibility 23 = .ok (.iload_n 2, 1) := by decide +kernel
theorem dX2_takeVisibility_24 : decode cX2_takeVisibility 24 = .ok (.putfield 214, 3) := by decide +kernel
theorem dX2_takeVisibility_27 : decode cX2_takeVisibility 27 = .ok (.aload_n 0, 1) := by decide +kernel
theorem dX2_takeVisibility_28 : decode cX2_takeVisibility 28 = .ok (.invokevirtual 50, 3) := by decide +kernel
theorem dX2_takeVisibility_31 : decode cX2_takeVisibility 31 = .ok (.ireturn, 1) := by decide +kernel
theorem dX2_takeWeathers_0 : decode cX2_takeWeathers 0 = .ok (.iconst 0, 1) := by decide +kernel
theorem dX2_takeWeathers_1 : decode cX2_takeWeathers 1 = .ok (.istore_n 2, 1) := by decide +kernel
theorem dX2_takeWeathers_2 : decode cX2_takeWeathers 2 = .ok (.iload_n 2, 1) := by decide +kernel
theorem dX2_takeWeathers_3 : decode cX2_takeWeathers 3 = .ok (.iconst 3, 1) := by decide +kernel
theorem dX2_takeWeathers_4 : decode cX2_takeWeathers 4 = .ok (.if_icmp .ge 30, 3) := by decide +kernel
theorem dX2_takeWeathers_7 : decode cX2_takeWeathers 7 = .ok (.aload_n 0, 1) := by decide +kernel
theorem dX2_takeWeathers_8 : decode cX2_takeWeathers 8 = .ok (.invokevirtual 220, 3) := by decide +kernel
theorem dX2_takeWeathers_11 : decode cX2_takeWeathers 11 = .ok (.istore_n 3, 1) := by decide +kernel
theorem dX2_takeWeathers_12 : decode cX2_takeWeathers 12 = .ok (.iload_n 3, 1) := by decide +kernel
theorem dX2_takeWeathers_13 : decode cX2_takeWeathers 13 = .ok (.iconst (-1), 1) := by decide +kernel
theorem dX2_takeWeathers_14 : decode cX2_takeWeathers 14 = .ok (.if_icmp .ne 4, 3) := by decide +kernel
theorem dX2_takeWeathers_17 : decode cX2_takeWeathers 17 = .ok (.return_, 1) := by decide +kernel
theorem dX2_takeWeathers_18 : decode cX2_takeWeathers 18 = .ok (.aload_n 1, 1) := by decide +kernel
theorem dX2_takeWeathers_19 : decode cX2_takeWeathers 19 = .ok (.iload_n 3, 1) := by decide +kernel
theorem dX2_takeWeathers_20 : decode cX2_takeWeathers 20 = .ok (.invokevirtual 224, 3) := by decide +kernel
theorem dX2_takeWeathers_23 : decode cX2_takeWeathers 23 = .ok (.aload_n 0, 1) := by decide +kernel
theorem dX2_takeWeathers_24 : decode cX2_takeWeathers 24 = .ok (.invokevirtual 50, 3) := by decide +kernel
theorem dX2_takeWeathers_27 : decode cX2_takeWeathers 27 = .ok (.pop, 1) := by decide +kernel
theorem dX2_takeWeathers_28 : decode cX2_takeWeathers 28 = .ok (.iinc 2 1, 3) := by decide +kernel
theorem dX2_takeWeathers_31 : decode cX2_takeWeathers 31 = .ok (.goto (-29), 3) := by decide +kernel
theorem dX2_takeWeathers_34 : decode cX2_takeWeathers 34 = .ok (.return_, 1) := by decide +kernel
theorem dX2_weatherNumber_0 : decode cX2_weatherNumber 0 = .ok (.aload_n 0, 1) := by decide +kernel
theorem dX2_weatherNumber_1 : decode cX2_weatherNumber 1 = .ok (.invokevirtual 227, 3) := by decide +kernel
theorem dX2_weatherNumber_4 : decode cX2_weatherNumber 4 = .ok (.istore_n 1, 1) := by decide +kernel
theorem dX2_weatherNumber_5 : decode cX2_weatherNumber 5 = .ok (.iload_n 1, 1) := by decide +kernel
theorem dX2_weatherNumber_6 : decode cX2_weatherNumber 6 = .ok (.ifCond .ne 7, 3) := by decide +kernel
theorem dX2_weatherNumber_9 : decode cX2_weatherNumber 9 = .ok (.iconst 0, 1) := by decide +kernel
theorem dX2_weatherNumber_10 : decode cX2_weatherNumber 10 = .ok (.goto 13, 3) := by decide +kernel
theorem dX2_weatherNumber_13 : decode cX2_weatherNumber 13 = .ok (.iload_n 1, 1) := by decide +kernel
theorem dX2_weatherNumber_14 : decode cX2_weatherNumber 14 = .ok (.iconst 3, 1) := by decide +kernel
theorem dX2_weatherNumber_15 : decode cX2_weatherNumber 15 = .ok (.if_icmp .ne 7, 3) := by decide +kernel
theorem dX2_weatherNumber_18 : decode cX2_weatherNumber 18 = .ok (.iconst 2, 1) := by decide +kernel
theorem dX2_weatherNumber_19 : decode cX2_weatherNumber 19 = .ok (.goto 4, 3) := by decide +kernel
theorem dX2_weatherNumber_22 : decode cX2_weatherNumber 22 = .ok (.iconst 1, 1) := by decide +kernel
theorem dX2_weatherNumber_23 : decode cX2_weatherNumber 23 = .ok (.istore_n 2, 1) := by decide +kernel
theorem dX2_weatherNumber_24 : decode cX2_weatherNumber 24 = .ok (.aload_n 0, 1) := by decide +kernel
theorem dX2_weatherNumber_25 : decode cX2_weatherNumber 25 = .ok (.iload_n 2, 1) := by decide +kernel
theorem dX2_weatherNumber_26 : decode cX2_weatherNumber 26 = .ok (.ldc 230, 2) := by decide +kernel
theorem dX2_weatherNumber_28 : decode cX2_weatherNumber 28 = .ok (.invokevirtual 232, 3) := by decide +kernel
theorem dX2_weatherNumber_31 : decode cX2_weatherNumber 31 = .ok (.istore_n 3, 1) := by decide +kernel
theorem dX2_weatherNumber_32 : decode cX2_weatherNumber 32 = .ok (.iload_n 3, 1) := by decide +kernel
theorem dX2_weatherNumber_33 : decode cX2_weatherNumber 33 = .ok (.iconst (-1), 1) := by decide +kernel
theorem dX2_weatherNumber_34 : decode cX2_weatherNumber 34 = .ok (.if_icmp .eq 14, 3) := by decide +kernel
theorem dX2_weatherNumber_37 : decode cX2_weatherNumber 37 = .ok (.iload_n 1, 1) := by decide +kernel
theorem dX2_weatherNumber_38 : decode cX2_weatherNumber 38 = .ok (.iconst 4, 1) := by decide +kernel
theorem dX2_weatherNumber_39 : decode cX2_weatherNumber 39 = .ok (.iload_n 3, 1) := by decide +kernel
theorem dX2_weatherNumber_40 : decode cX2_weatherNumber 40 = .ok (.iconst 1, 1) := by decide +kernel
theorem dX2_weatherNumber_41 : decode cX2_weatherNumber 41 = .ok (.iadd, 1) := by decide +kernel
theorem dX2_weatherNumber_42 : decode cX2_weatherNumber 42 = .ok (.imul, 1) := by decide +kernel
theorem dX2_weatherNumber_43 : decode cX2_weatherNumber 43 = .ok (.iadd, 1) := by decide +kernel
theorem dX2_weatherNumber_44 : decode cX2_weatherNumber 44 = .ok (.istore_n 1, 1) := by decide +kernel
theorem dX2_weatherNumber_45 : decode cX2_weatherNumber 45 = .ok (.iinc 2 2, 3) := by decide +kernel
theorem dX2_weatherNumber_48 : decode cX2_weatherNumber 48 = .ok (.iconst 0, 1) := by decide +kernel
theorem dX2_weatherNumber_49 : decode cX2_weatherNumber 49 = .ok (.istore 4, 2) := by decide +kernel
theorem dX2_weatherNumber_51 : decode cX2_weatherNumber 51 = .ok (.bipush 64, 2) := by decide +kernel
theorem dX2_weatherNumber_53 : decode cX2_weatherNumber 53 = .ok (.istore 5, 2) := by decide +kernel
theorem dX2_weatherNumber_55 : decode cX2_weatherNumber 55 = .ok (.iload 4, 2) := by decide +kernel
theorem dX2_weatherNumber_57 : decode cX2_weatherNumber 57 = .ok (.iconst 3, 1) := by decide +kernel
theorem dX2_weatherNumber_58 : decode cX2_weatherNumber 58 = .ok (.if_icmp .ge 54, 3) := by decide +kernel
theorem dX2_weatherNumber_61 : decode cX2_weatherNumber 61 = .ok (.iload_n 2, 1) := by decide +kernel
theorem dX2_weatherNumber_62 : decode cX2_weatherNumber 62 = .ok (.aload_n 0, 1) := by decide +kernel
theorem dX2_weatherNumber_63 : decode cX2_weatherNumber 63 = .ok (.getfield 18, 3) := by decide +kernel
theorem dX2_weatherNumber_66 : decode cX2_weatherNumber 66 = .ok (.if_icmp .ge 46, 3) := by decide +kernel
theorem dX2_weatherNumber_69 : decode cX2_weatherNumber 69 = .ok (.aload_n 0, 1) := by decide +kernel
theorem dX2_weatherNumber_70 : decode cX2_weatherNumber 70 = .ok (.iload_n 2, 1) := by decide +kernel
theorem dX2_weatherNumber_71 : decode cX2_weatherNumber 71 = .ok (.ldc 236, 2) := by decide +kernel
theorem dX2_weatherNumber_73 : decode cX2_weatherNumber 73 = .ok (.invokevirtual 232, 3) := by decide +kernel
theorem dX2_weatherNumber_76 : decode cX2_weatherNumber 76 = .ok (.istore 6, 2) := by decide +kernel
theorem dX2_weatherNumber_78 : decode cX2_weatherNumber 78 = .ok (.iload 6, 2) := by decide +kernel
theorem dX2_weatherNumber_80 : decode cX2_weatherNumber 80 = .ok (.iconst (-1), 1) := by decide +kernel
theorem dX2_weatherNumber_81 : decode cX2_weatherNumber 81 = .ok (.if_icmp .ne 5, 3) := by decide +kernel
theorem dX2_weatherNumber_84 : decode cX2_weatherNumber 84 = .ok (.iconst (-1), 1) := by decide +kernel
theorem dX2_weatherNumber_85 : decode cX2_weatherNumber 85 = .ok (.ireturn, 1) := by decide +kernel
theorem dX2_weatherNumber_86 : decode cX2_weatherNumber 86 = .ok (.iload_n 1, 1) := by decide +kernel
theorem dX2_weatherNumber_87 : decode cX2_weatherNumber 87 = .ok (.iload 5, 2) := by decide +kernel
theorem dX2_weatherNumber_89 : decode cX2_weatherNumber 89 = .ok (.iload 6, 2) := by decide +kernel
theorem dX2_weatherNumber_91 : decode cX2_weatherNumber 91 = .ok (.iconst 1, 1) := by decide +kernel
theorem dX2_weatherNumber_92 : decode cX2_weatherNumber 92 = .ok (.iadd, 1) := by decide +kernel
theorem dX2_weatherNumber_93 : decode cX2_weatherNumber 93 = .ok (.imul, 1) := by decide +kernel
theorem dX2_weatherNumber_94 : decode cX2_weatherNumber 94 = .ok (.iadd, 1) := by decide +kernel
theorem dX2_weatherNumber_95 : decode cX2_weatherNumber 95 = .ok (.istore_n 1, 1) := by decide +kernel
theorem dX2_weatherNumber_96 : decode cX2_weatherNumber 96 = .ok (.iload 5, 2) := by decide +kernel
theorem dX2_weatherNumber_98 : decode cX2_weatherNumber 98 = .ok (.bipush 32, 2) := by decide +kernel
theorem dX2_weatherNumber_100 : decode cX2_weatherNumber 100 = .ok (.imul, 1) := by decide +kernel
theorem dX2_weatherNumber_101 : decode cX2_weatherNumber 101 = .ok (.istore 5, 2) := by decide +kernel
theorem dX2_weatherNumber_103 : decode cX2_weatherNumber 103 = .ok (.iinc 2 2, 3) := by decide +kernel
theorem dX2_weatherNumber_106 : decode cX2_weatherNumber 106 = .ok (.iinc 4 1, 3) := by decide +kernel
theorem dX2_weatherNumber_109 : decode cX2_weatherNumber 109 = .ok (.goto (-54), 3) := by decide +kernel
theorem dX2_weatherNumber_112 : decode cX2_weatherNumber 112 = .ok (.iload 4, 2) := by decide +kernel
theorem dX2_weatherNumber_114 : decode cX2_weatherNumber 114 = .ok (.ifCond .gt 9, 3) := by decide +kernel
theorem dX2_weatherNumber_117 : decode cX2_weatherNumber 117 = .ok (.iload_n 3, 1) := by decide +kernel
theorem dX2_weatherNumber_118 : decode cX2_weatherNumber 118 = .ok (.bipush 6, 2) := by decide +kernel
theorem dX2_weatherNumber_120 : decode cX2_weatherNumber 120 = .ok (.if_icmp .ne 7, 3) := by decide +kernel
theorem dX2_weatherNumber_123 : decode cX2_weatherNumber 123 = .ok (.iconst 1, 1) := by decide +kernel
theorem dX2_weatherNumber_124 : decode cX2_weatherNumber 124 = .ok (.goto 4, 3) := by decide +kernel
theorem dX2_weatherNumber_127 : decode cX2_weatherNumber 127 = .ok (.iconst 0, 1) := by decide +kernel
theorem dX2_weatherNumber_128 : decode cX2_weatherNumber 128 = .ok (.istore 6, 2) := by decide +kernel
theorem dX2_weatherNumber_130 : decode cX2_weatherNumber 130 = .ok (.iload 6, 2) := by decide +kernel
theorem dX2_weatherNumber_132 : decode cX2_weatherNumber 132 = .ok (.ifCond .eq 15, 3) := by decide +kernel
theorem dX2_weatherNumber_135 : decode cX2_weatherNumber 135 = .ok (.iload_n 2, 1) := by decide +kernel
theorem dX2_weatherNumber_136 : decode cX2_weatherNumber 136 = .ok (.aload_n 0, 1) := by decide +kernel
theorem dX2_weatherNumber_137 : decode cX2_weatherNumber 137 = .ok (.getfield 18, 3) := by decide +kernel
theorem dX2_weatherNumber_140 : decode cX2_weatherNumber 140 = .ok (.if_icmp .ne 7, 3) := by decide +kernel
theorem dX2_weatherNumber_143 : decode cX2_weatherNumber 143 = .ok (.iload_n 1, 1) := by decide +kernel
theorem dX2_weatherNumber_144 : decode cX2_weatherNumber 144 = .ok (.goto 4, 3) := by decide +kernel
theorem dX2_weatherNumber_147 : decode cX2_weatherNumber 147 = .ok (.iconst (-1), 1) := by decide +kernel
theorem dX2_weatherNumber_148 : decode cX2_weatherNumber 148 = .ok (.ireturn, 1) := by decide +kernel
theorem dX2_signNumber_0 : decode cX2_signNumber 0 = .ok (.aload_n 0, 1) := by decide +kernel
theorem dX2_signNumber_1 : decode cX2_signNumber 1 = .ok (.getfield 21, 3) := by decide +kernel
theorem dX2_signNumber_4 : decode cX2_signNumber 4 = .ok (.iconst 0, 1) := by decide +kernel
theorem dX2_signNumber_5 : decode cX2_signNumber 5 = .ok (.caload, 1) := by decide +kernel
theorem dX2_signNumber_6 : decode cX2_signNumber 6 = .ok (.bipush 45, 2) := by decide +kernel
theorem dX2_signNumber_8 : decode cX2_signNumber 8 = .ok (.if_icmp .ne 5, 3) := by decide +kernel
theorem dX2_signNumber_11 : decode cX2_signNumber 11 = .ok (.iconst 1, 1) := by decide +kernel
theorem dX2_signNumber_12 : decode cX2_signNumber 12 = .ok (.ireturn, 1) := by decide +kernel
theorem dX2_signNumber_13 : decode cX2_signNumber 13 = .ok (.aload_n 0, 1) := by decide +kernel
theorem dX2_signNumber_14 : decode cX2_signNumber 14 = .ok (.getfield 21, 3) := by decide +kernel
theorem dX2_signNumber_17 : decode cX2_signNumber 17 = .ok (.iconst 0, 1) := by decide +kernel
theorem dX2_signNumber_18 : decode cX2_signNumber 18 = .ok (.caload, 1) := by decide +kernel
theorem dX2_signNumber_19 : decode cX2_signNumber 19 = .ok (.bipush 43, 2) := by decide +kernel
theorem dX2_signNumber_21 : decode cX2_signNumber 21 = .ok (.if_icmp .ne 5, 3) := by decide +kernel
theorem dX2_signNumber_24 : decode cX2_signNumber 24 = .ok (.iconst 2, 1) := by decide +kernel
theorem dX2_signNumber_25 : decode cX2_signNumber 25 = .ok (.ireturn, 1) := by decide +kernel
theorem dX2_signNumber_26 : decode cX2_signNumber 26 = .ok (.aload_n 0, 1) := by decide +kernel
theorem dX2_signNumber_27 : decode cX2_signNumber 27 = .ok (.getfield 21, 3) := by decide +kernel
theorem dX2_signNumber_30 : decode cX2_signNumber 30 = .ok (.iconst 0, 1) := by decide +kernel
theorem dX2_signNumber_31 : decode cX2_signNumber 31 = .ok (.caload, 1) := by decide +kernel
theorem dX2_signNumber_32 : decode cX2_signNumber 32 = .ok (.bipush 86, 2) := by decide +kernel
theorem dX2_signNumber_34 : decode cX2_signNumber 34 = .ok (.if_icmp .ne 18, 3) := by decide +kernel
theorem dX2_signNumber_37 : decode cX2_signNumber 37 = .ok (.aload_n 0, 1) := by decide +kernel
theorem dX2_signNumber_38 : decode cX2_signNumber 38 = .ok (.getfield 21, 3) := by decide +kernel
theorem dX2_signNumber_41 : decode cX2_signNumber 41 = .ok (.iconst 1, 1) := by decide +kernel
theorem dX2_signNumber_42 : decode cX2_signNumber 42 = .ok (.caload, 1) := by decide +kernel
theorem dX2_signNumber_43 : decode cX2_signNumber 43 = .ok (.bipush 67, 2) := by decide +kernel
theorem dX2_signNumber_45 : decode cX2_signNumber 45 = .ok (.if_icmp .ne 7, 3) := by decide +kernel
theorem dX2_signNumber_48 : decode cX2_signNumber 48 = .ok (.iconst 3, 1) := by decide +kernel
theorem dX2_signNumber_49 : decode cX2_signNumber 49 = .ok (.goto 4, 3) := by decide +kernel
theorem dX2_signNumber_52 : decode cX2_signNumber 52 = .ok (.iconst 0, 1) := by decide +kernel
theorem dX2_signNumber_53 : decode cX2_signNumber 53 = .ok (.ireturn, 1) := by decide +kernel
theorem dX2_takeClouds_0 : decode cX2_takeClouds 0 = .ok (.aload_n 0, 1) := by decide +kernel
theorem dX2_takeClouds_1 : decode cX2_takeClouds 1 = .ok (.ldc 238, 2) := by decide +kernel
theorem dX2_takeClouds_3 : decode cX2_takeClouds 3 = .ok (.invokevirtual 72, 3) := by decide +kernel
theorem dX2_takeClouds_6 : decode cX2_takeClouds 6 = .ok (.ifCond .eq 10, 3) := by decide +kernel
theorem dX2_takeClouds_9 : decode cX2_takeClouds 9 = .ok (.aload_n 1, 1) := by decide +kernel
theorem dX2_takeClouds_10 : decode cX2_takeClouds 10 = .ok (.iconst 0, 1) := by decide +kernel
theorem dX2_takeClouds_11 : decode cX2_takeClouds 11 = .ok (.putfield 217, 3) := by decide +kernel
theorem dX2_takeClouds_14 : decode cX2_takeClouds 14 = .ok (.iconst 1, 1) := by decide +kernel
theorem dX2_takeClouds_15 : decode cX2_takeClouds 15 = .ok (.ireturn, 1) := by decide +kernel
theorem dX2_takeClouds_16 : decode cX2_takeClouds 16 = .ok (.aload_n 0, 1) := by decide +kernel
theorem dX2_takeClouds_17 : decode cX2_takeClouds 17 = .ok (.iconst 2, 1) := by decide +kernel
theorem dX2_takeClouds_18 : decode cX2_takeClouds 18 = .ok (.iconst 3, 1) := by decide +kernel
theorem dX2_takeClouds_19 : decode cX2_takeClouds 19 = .ok (.invokevirtual 174, 3) := by decide +kernel
theorem dX2_takeClouds_22 : decode cX2_takeClouds 22 = .ok (.istore_n 2, 1) := by decide +kernel
theorem dX2_takeClouds_23 : decode cX2_takeClouds 23 = .ok (.aload_n 0, 1) := by decide +kernel
theorem dX2_takeClouds_24 : decode cX2_takeClouds 24 = .ok (.iconst 0, 1) := by decide +kernel
theorem dX2_takeClouds_25 : decode cX2_takeClouds 25 = .ok (.ldc 240, 2) := by decide +kernel
theorem dX2_takeClouds_27 : decode cX2_takeClouds 27 = .ok (.invokevirtual 195, 3) := by decide +kernel
theorem dX2_takeClouds_30 : decode cX2_takeClouds 30 = .ok (.ifCond .eq 31, 3) := by decide +kernel
theorem dX2_takeClouds_33 : decode cX2_takeClouds 33 = .ok (.aload_n 0, 1) := by decide +kernel
theorem dX2_takeClouds_34 : decode cX2_takeClouds 34 = .ok (.getfield 18, 3) := by decide +kernel
theorem dX2_takeClouds_37 : decode cX2_takeClouds 37 = .ok (.iconst 5, 1) := by decide +kernel
theorem dX2_takeClouds_38 : decode cX2_takeClouds 38 = .ok (.if_icmp .ne 23, 3) := by decide +kernel
theorem dX2_takeClouds_41 : decode cX2_takeClouds 41 = .ok (.iload_n 2, 1) := by decide +kernel
theorem dX2_takeClouds_42 : decode cX2_takeClouds 42 = .ok (.iconst (-1), 1) := by decide +kernel
theorem dX2_takeClouds_43 : decode cX2_takeClouds 43 = .ok (.if_icmp .eq 18, 3) := by decide +kernel
theorem dX2_takeClouds_46 : decode cX2_takeClouds 46 = .ok (.aload_n 1, 1) := by decide +kernel
theorem dX2_takeClouds_47 : decode cX2_takeClouds 47 = .ok (.iconst 5, 1) := by decide +kernel
theorem dX2_takeClouds_48 : decode cX2_takeClouds 48 = .ok (.bipush 8, 2) := by decide +kernel
theorem dX2_takeClouds_50 : decode cX2_takeClouds 50 = .ok (.iload_n 2, 1) := by decide +kernel
theorem dX2_takeClouds_51 : decode cX2_takeClouds 51 = .ok (.imul, 1) := by decide +kernel
theorem dX2_takeClouds_52 : decode cX2_takeClouds 52 = .ok (.iadd, 1) := by decide +kernel
theorem dX2_takeClouds_53 : decode cX2_takeClouds 53 = .ok (.invokevirtual 242, 3) := by decide +kernel
theorem dX2_takeClouds_56 : decode cX2_takeClouds 56 = .ok (.aload_n 0, 1) := by decide +kernel
theorem dX2_takeClouds_57 : decode cX2_takeClouds 57 = .ok (.invokevirtual 50, 3) := by decide +kernel
theorem dX2_takeClouds_60 : decode cX2_takeClouds 60 = .ok (.ireturn, 1) := by decide +kernel
theorem dX2_takeClouds_61 : decode cX2_takeClouds 61 = .ok (.iconst 0, 1) := by decide +kernel
theorem dX2_takeClouds_62 : decode cX2_takeClouds 62 = .ok (.istore_n 3, 1) := by decide +kernel
theorem dX2_takeClouds_63 : decode cX2_takeClouds 63 = .ok (.iconst 0, 1) := by decide +kernel
theorem dX2_takeClouds_64 : decode cX2_takeClouds 64 = .ok (.istore 4, 2) := by decide +kernel
theorem dX2_takeClouds_66 : decode cX2_takeClouds 66 = .ok (.iload 4, 2) := by decide +kernel
theorem dX2_takeClouds_68 : decode cX2_takeClouds 68 = .ok (.iconst 4, 1) := by decide +kernel
theorem dX2_takeClouds_69 : decode cX2_takeClouds 69 = .ok (.if_icmp .ge 58, 3) := by decide +kernel
theorem dX2_takeClouds_72 : decode cX2_takeClouds 72 = .ok (.aload_n 0, 1) := by decide +kernel
theorem dX2_takeClouds_73 : decode cX2_takeClouds 73 = .ok (.invokevirtual 245, 3) := by decide +kernel
theorem dX2_takeClouds_76 : decode cX2_takeClouds 76 = .ok (.istore 5, 2) := by decide +kernel
theorem dX2_takeClouds_78 : decode cX2_takeClouds 78 = .ok (.iload 5, 2) := by decide +kernel
theorem dX2_takeClouds_80 : decode cX2_takeClouds 80 = .ok (.iconst (-1), 1) := by decide +kernel
theorem dX2_takeClouds_81 : decode cX2_takeClouds 81 = .ok (.if_icmp .eq 12, 3) := by decide +kernel
theorem dX2_takeClouds_84 : decode cX2_takeClouds 84 = .ok (.iload 5, 2) := by decide +kernel
theorem dX2_takeClouds_86 : decode cX2_takeClouds 86 = .ok (.invokestatic 248, 3) := by decide +kernel
theorem dX2_takeClouds_89 : decode cX2_takeClouds 89 = .ok (.iload_n 3, 1) := by decide +kernel
theorem dX2_takeClouds_90 : decode cX2_takeClouds 90 = .ok (.if_icmp .ge 14, 3) := by decide +kernel
theorem dX2_takeClouds_93 : decode cX2_takeClouds 93 = .ok (.iload 4, 2) := by decide +kernel
theorem dX2_takeClouds_95 : decode cX2_takeClouds 95 = .ok (.ifCond .le 7, 3) := by decide +kernel
theorem dX2_takeClouds_98 : decode cX2_takeClouds 98 = .ok (.iconst 1, 1) := by decide +kernel
theorem dX2_takeClouds_99 : decode cX2_takeClouds 99 = .ok (.goto 4, 3) := by decide +kernel
theorem dX2_takeClouds_102 : decode cX2_takeClouds 102 = .ok (.iconst 0, 1) := by decide +kernel
theorem dX2_takeClouds_103 : decode cX2_takeClouds 103 = .ok (.ireturn, 1) := by decide +kernel
theorem dX2_takeClouds_104 : decode cX2_takeClouds 104 = .ok (.iload 5, 2) := by decide +kernel
theorem dX2_takeClouds_106 : decode cX2_takeClouds 106 = .ok (.invokestatic 248, 3) := by decide +kernel
theorem dX2_takeClouds_109 : decode cX2_takeClouds 109 = .ok (.istore_n 3, 1) := by decide +kernel
theorem dX2_takeClouds_110 : decode cX2_takeClouds 110 = .ok (.aload_n 1, 1) := by decide +kernel
theorem dX2_takeClouds_111 : decode cX2_takeClouds 111 = .ok (.iload 5, 2) := by decide +kernel
theorem dX2_takeClouds_113 : decode cX2_takeClouds 113 = .ok (.invokevirtual 242, 3) := by decide +kernel
theorem dX2_takeClouds_116 : decode cX2_takeClouds 116 = .ok (.aload_n 0, 1) := by decide +kernel
theorem dX2_takeClouds_117 : decode cX2_takeClouds 117 = .ok (.invokevirtual 50, 3) := by decide +kernel
theorem dX2_takeClouds_120 : decode cX2_takeClouds 120 = .ok (.pop, 1) := by decide +kernel
theorem dX2_takeClouds_121 : decode cX2_takeClouds 121 = .ok (.iinc 4 1, 3) := by decide +kernel
theorem dX2_takeClouds_124 : decode cX2_takeClouds 124 = .ok (.goto (-58), 3) := by decide +kernel
theorem dX2_takeClouds_127 : decode cX2_takeClouds 127 = .ok (.iconst 1, 1) := by decide +kernel
theorem dX2_takeClouds_128 : decode cX2_takeClouds 128 = .ok (.ireturn, 1) := by decide +kernel
theorem dX2_layerNumber_0 : decode cX2_layerNumber 0 = .ok (.aload_n 0, 1) := by decide +kernel
theorem dX2_layerNumber_1 : decode cX2_layerNumber 1 = .ok (.iconst 3, 1) := by decide +kernel
theorem dX2_layerNumber_2 : decode cX2_layerNumber 2 = .ok (.iconst 3, 1) := by decide +kernel
theorem dX2_layerNumber_3 : decode cX2_layerNumber 3 = .ok (.invokevirtual 174, 3) := by decide +kernel
theorem dX2_layerNumber_6 : decode cX2_layerNumber 6 = .ok (.istore_n 1, 1) := by decide +kernel
theorem dX2_layerNumber_7 : decode cX2_layerNumber 7 = .ok (.aload_n 0, 1) := by decide +kernel
theorem dX2_layerNumber_8 : decode cX2_layerNumber 8 = .ok (.getfield 18, 3) := by decide +kernel
theorem dX2_layerNumber_11 : decode cX2_layerNumber 11 = .ok (.bipush 8, 2) := by decide +kernel
theorem dX2_layerNumber_13 : decode cX2_layerNumber 13 = .ok (.if_icmp .ne 18, 3) := by decide +kernel
theorem dX2_layerNumber_16 : decode cX2_layerNumber 16 = .ok (.aload_n 0, 1) := by decide +kernel
theorem dX2_layerNumber_17 : decode cX2_layerNumber 17 = .ok (.bipush 6, 2) := by decide +kernel
theorem dX2_layerNumber_19 : decode cX2_layerNumber 19 = .ok (.ldc 251, 2) := by decide +kernel
theorem dX2_layerNumber_21 : decode cX2_layerNumber 21 = .ok (.invokevirtual 195, 3) := by decide +kernel
theorem dX2_layerNumber_24 : decode cX2_layerNumber 24 = .ok (.ifCond .eq 7, 3) := by decide +kernel
theorem dX2_layerNumber_27 : decode cX2_layerNumber 27 = .ok (.iconst 1, 1) := by decide +kernel
theorem dX2_layerNumber_28 : decode cX2_layerNumber 28 = .ok (.goto 4, 3) := by decide +kernel
theorem dX2_layerNumber_31 : decode cX2_layerNumber 31 = .ok (.iconst 0, 1) := by decide +kernel
theorem dX2_layerNumber_32 : decode cX2_layerNumber 32 = .ok (.istore_n 2, 1) := by decide +kernel
theorem dX2_layerNumber_33 : decode cX2_layerNumber 33 = .ok (.aload_n 0, 1) := by decide +kernel
theorem dX2_layerNumber_34 : decode cX2_layerNumber 34 = .ok (.getfield 18, 3) := by decide +kernel
theorem dX2_layerNumber_37 : decode cX2_layerNumber 37 = .ok (.bipush 9, 2) := by decide +kernel
theorem dX2_layerNumber_39 : decode cX2_layerNumber 39 = .ok (.if_icmp .ne 18, 3) := by decide +kernel
theorem dX2_layerNumber_42 : decode cX2_layerNumber 42 = .ok (.aload_n 0, 1) := by decide +kernel
theorem dX2_layerNumber_43 : decode cX2_layerNumber 43 = .ok (.bipush 6, 2) := by decide +kernel
theorem dX2_layerNumber_45 : decode cX2_layerNumber 45 = .ok (.ldc 253, 2) := by decide +kernel
theorem dX2_layerNumber_47 : decode cX2_layerNumber 47 = .ok (.invokevirtual 195, 3) := by decide +kernel
theorem dX2_layerNumber_50 : decode cX2_layerNumber 50 = .ok (.ifCond .eq 7, 3) := by decide +kernel
theorem dX2_layerNumber_53 : decode cX2_layerNumber 53 = .ok (.iconst 1, 1) := by decide +kernel
theorem dX2_layerNumber_54 : decode cX2_layerNumber 54 = .ok (.goto 4, 3) := by decide +kernel
theorem dX2_layerNumber_57 : decode cX2_layerNumber 57 = .ok (.iconst 0, 1) := by decide +kernel
theorem dX2_layerNumber_58 : decode cX2_layerNumber 58 = .ok (.istore_n 3, 1) := by decide +kernel
theorem dX2_layerNumber_59 : decode cX2_layerNumber 59 = .ok (.iload_n 1, 1) := by decide +kernel
theorem dX2_layerNumber_60 : decode cX2_layerNumber 60 = .ok (.iconst (-1), 1) := by decide +kernel
theorem dX2_layerNumber_61 : decode cX2_layerNumber 61 = .ok (.if_icmp .eq 20, 3) := by decide +kernel
theorem dX2_layerNumber_64 : decode cX2_layerNumber 64 = .ok (.aload_n 0, 1) := by decide +kernel
theorem dX2_layerNumber_65 : decode cX2_layerNumber 65 = .ok (.getfield 18, 3) := by decide +kernel
theorem dX2_layerNumber_68 : decode cX2_layerNumber 68 = .ok (.bipush 6, 2) := by decide +kernel
theorem dX2_layerNumber_70 : decode cX2_layerNumber 70 = .ok (.if_icmp .eq 13, 3) := by decide +kernel
theorem dX2_layerNumber_73 : decode cX2_layerNumber 73 = .ok (.iload_n 2, 1) := by decide +kernel
theorem dX2_layerNumber_74 : decode cX2_layerNumber 74 = .ok (.ifCond .ne 9, 3) := by decide +kernel
theorem dX2_layerNumber_77 : decode cX2_layerNumber 77 = .ok (.iload_n 3, 1) := by decide +kernel
theorem dX2_layerNumber_78 : decode cX2_layerNumber 78 = .ok (.ifCond .ne 5, 3) := by decide +kernel
theorem dX2_layerNumber_81 : decode cX2_layerNumber 81 = .ok (.iconst (-1), 1) := by decide +kernel
theorem dX2_layerNumber_82 : decode cX2_layerNumber 82 = .ok (.ireturn, 1) := by decide +kernel
theorem dX2_layerNumber_83 : decode cX2_layerNumber 83 = .ok (.iload_n 2, 1) := by decide +kernel
theorem dX2_layerNumber_84 : decode cX2_layerNumber 84 = .ok (.ifCond .eq 7, 3) := by decide +kernel
theorem dX2_layerNumber_87 : decode cX2_layerNumber 87 = .ok (.iconst 1, 1) := by decide +kernel
theorem dX2_layerNumber_88 : decode cX2_layerNumber 88 = .ok (.goto 12, 3) := by decide +kernel
theorem dX2_layerNumber_91 : decode cX2_layerNumber 91 = .ok (.iload_n 3, 1) := by decide +kernel
theorem dX2_layerNumber_92 : decode cX2_layerNumber 92 = .ok (.ifCond .eq 7, 3) := by decide +kernel
theorem dX2_layerNumber_95 : decode cX2_layerNumber 95 = .ok (.iconst 2, 1) := by decide +kernel
theorem dX2_layerNumber_96 : decode cX2_layerNumber 96 = .ok (.goto 4, 3) := by decide +kernel
theorem dX2_layerNumber_99 : decode cX2_layerNumber 99 = .ok (.iconst 0, 1) := by decide +kernel
theorem dX2_layerNumber_100 : decode cX2_layerNumber 100 = .ok (.istore 4, 2) := by decide +kernel
theorem dX2_layerNumber_102 : decode cX2_layerNumber 102 = .ok (.iconst 0, 1) := by decide +kernel
theorem dX2_layerNumber_103 : decode cX2_layerNumber 103 = .ok (.istore 5, 2) := by decide +kernel
theorem dX2_layerNumber_105 : decode cX2_layerNumber 105 = .ok (.iload 5, 2) := by decide +kernel
theorem dX2_layerNumber_107 : decode cX2_layerNumber 107 = .ok (.iconst 2, 1) := by decide +kernel
theorem dX2_layerNumber_108 : decode cX2_layerNumber 108 = .ok (.iadd, 1) := by decide +kernel
theorem dX2_layerNumber_109 : decode cX2_layerNumber 109 = .ok (.ldc 255, 2) := by decide +kernel
theorem dX2_layerNumber_111 : decode cX2_layerNumber 111 = .ok (.invokevirtual 257, 3) := by decide +kernel
theorem dX2_layerNumber_114 : decode cX2_layerNumber 114 = .ok (.if_icmp .ge 80, 3) := by decide +kernel
theorem dX2_layerNumber_117 : decode cX2_layerNumber 117 = .ok (.aload_n 0, 1) := by decide +kernel
theorem dX2_layerNumber_118 : decode cX2_layerNumber 118 = .ok (.getfield 21, 3) := by decide +kernel
theorem dX2_layerNumber_121 : decode cX2_layerNumber 121 = .ok (.iconst 0, 1) := by decide +kernel
theorem dX2_layerNumber_122 : decode cX2_layerNumber 122 = .ok (.caload, 1) := by decide +kernel
theorem dX2_layerNumber_123 : decode cX2_layerNumber 123 = .ok (.ldc 255, 2) := by decide +kernel
theorem dX2_layerNumber_125 : decode cX2_layerNumber 125 = .ok (.iload 5, 2) := by decide +kernel
theorem dX2_layerNumber_127 : decode cX2_layerNumber 127 = .ok (.invokevirtual 261, 3) := by decide +kernel
theorem dX2_layerNumber_130 : decode cX2_layerNumber 130 = .ok (.if_icmp .ne 58, 3) := by decide +kernel
theorem dX2_layerNumber_133 : decode cX2_layerNumber 133 = .ok (.aload_n 0, 1) := by decide +kernel
theorem dX2_layerNumber_134 : decode cX2_layerNumber 134 = .ok (.getfield 21, 3) := by decide +kernel
theorem dX2_layerNumber_137 : decode cX2_layerNumber 137 = .ok (.iconst 1, 1) := by decide +kernel
theorem dX2_layerNumber_138 : decode cX2_layerNumber 138 = .ok (.caload, 1) := by decide +kernel
theorem dX2_layerNumber_139 : decode cX2_layerNumber 139 = .ok (.ldc 255, 2) := by decide +kernel
theorem dX2_layerNumber_141 : decode cX2_layerNumber 141 = .ok (.iload 5, 2) := by decide +kernel
theorem dX2_layerNumber_143 : decode cX2_layerNumber 143 = .ok (.iconst 1, 1) := by decide +kernel
theorem dX2_layerNumber_144 : decode cX2_layerNumber 144 = .ok (.iadd, 1) := by decide +kernel
theorem dX2_layerNumber_145 : decode cX2_layerNumber 145 = .ok (.invokevirtual 261, 3) := by decide +kernel
theorem dX2_layerNumber_148 : decode cX2_layerNumber 148 = .ok (.if_icmp .ne 40, 3) := by decide +kernel
theorem dX2_layerNumber_151 : decode cX2_layerNumber 151 = .ok (.aload_n 0, 1) := by decide +kernel
theorem dX2_layerNumber_152 : decode cX2_layerNumber 152 = .ok (.getfield 21, 3) := by decide +kernel
theorem dX2_layerNumber_155 : decode cX2_layerNumber 155 = .ok (.iconst 2, 1) := by decide +kernel
theorem dX2_layerNumber_156 : decode cX2_layerNumber 156 = .ok (.caload, 1) := by decide +kernel
theorem dX2_layerNumber_157 : decode cX2_layerNumber 157 = .ok (.ldc 255, 2) := by decide +kernel
theorem dX2_layerNumber_159 : decode cX2_layerNumber 159 = .ok (.iload 5, 2) := by decide +kernel
theorem dX2_layerNumber_161 : decode cX2_layerNumber 161 = .ok (.iconst 2, 1) := by decide +kernel
theorem dX2_layerNumber_162 : decode cX2_layerNumber 162 = .ok (.iadd, 1) := by decide +kernel
theorem dX2_layerNumber_163 : decode cX2_layerNumber 163 = .ok (.invokevirtual 261, 3) := by decide +kernel
theorem dX2_layerNumber_166 : decode cX2_layerNumber 166 = .ok (.if_icmp .ne 22, 3) := by decide +kernel
theorem dX2_layerNumber_169 : decode cX2_layerNumber 169 = .ok (.iload 5, 2) := by decide +kernel
theorem dX2_layerNumber_171 : decode cX2_layerNumber 171 = .ok (.iconst 3, 1) := by decide +kernel
theorem dX2_layerNumber_172 : decode cX2_layerNumber 172 = .ok (.idiv, 1) := by decide +kernel
theorem dX2_layerNumber_173 : decode cX2_layerNumber 173 = .ok (.iconst 1, 1) := by decide +kernel
theorem dX2_layerNumber_174 : decode cX2_layerNumber 174 = .ok (.iadd, 1) := by decide +kernel
theorem dX2_layerNumber_175 : decode cX2_layerNumber 175 = .ok (.bipush 8, 2) := by decide +kernel
theorem dX2_layerNumber_177 : decode cX2_layerNumber 177 = .ok (.iload_n 1, 1) := by decide +kernel
theorem dX2_layerNumber_178 : decode cX2_layerNumber 178 = .ok (.imul, 1) := by decide +kernel
theorem dX2_layerNumber_179 : decode cX2_layerNumber 179 = .ok (.iadd, 1) := by decide +kernel
theorem dX2_layerNumber_180 : decode cX2_layerNumber 180 = .ok (.sipush 8192, 3) := by decide +kernel
theorem dX2_layerNumber_183 : decode cX2_layerNumber 183 = .ok (.iload 4, 2) := by decide +kernel
theorem dX2_layerNumber_185 : decode cX2_layerNumber 185 = .ok (.imul, 1) := by decide +kernel
theorem dX2_layerNumber_186 : decode cX2_layerNumber 186 = .ok (.iadd, 1) := by decide +kernel
theorem dX2_layerNumber_187 : decode cX2_layerNumber 187 = .ok (.ireturn, 1) := by decide +kernel
theorem dX2_layerNumber_188 : decode cX2_layerNumber 188 = .ok (.iinc 5 3, 3) := by decide +kernel
theorem dX2_layerNumber_191 : decode cX2_layerNumber 191 = .ok (.goto (-86), 3) := by decide +kernel
theorem dX2_layerNumber_194 : decode cX2_layerNumber 194 = .ok (.iconst (-1), 1) := by decide +kernel
theorem dX2_layerNumber_195 : decode cX2_layerNumber 195 = .ok (.ireturn, 1) := by decide +kernel
theorem dX2_timeAt_0 : decode cX2_timeAt 0 = .ok (.aload_n 0, 1) := by decide +kernel
theorem dX2_timeAt_1 : decode cX2_timeAt 1 = .ok (.iload_n 1, 1) := by decide +kernel
theorem dX2_timeAt_2 : decode cX2_timeAt 2 = .ok (.bipush 23, 2) := by decide +kernel
theorem dX2_timeAt_4 : decode cX2_timeAt 4 = .ok (.invokevirtual 190, 3) := by decide +kernel
theorem dX2_timeAt_7 : decode cX2_timeAt 7 = .ok (.istore_n 2, 1) := by decide +kernel
theorem dX2_timeAt_8 : decode cX2_timeAt 8 = .ok (.aload_n 0, 1) := by decide +kernel
theorem dX2_timeAt_9 : decode cX2_timeAt 9 = .ok (.iload_n 1, 1) := by decide +kernel
theorem dX2_timeAt_10 : decode cX2_timeAt 10 = .ok (.iconst 4, 1) := by decide +kernel
theorem dX2_timeAt_11 : decode cX2_timeAt 11 = .ok (.iadd, 1) := by decide +kernel
theorem dX2_timeAt_12 : decode cX2_timeAt 12 = .ok (.iconst 2, 1) := by decide +kernel
theorem dX2_timeAt_13 : decode cX2_timeAt 13 = .ok (.invokevirtual 174, 3) := by decide +kernel
theorem dX2_timeAt_16 : decode cX2_timeAt 16 = .ok (.istore_n 3, 1) := by decide +kernel
theorem dX2_timeAt_17 : decode cX2_timeAt 17 = .ok (.iload_n 2, 1) := by decide +kernel
theorem dX2_timeAt_18 : decode cX2_timeAt 18 = .ok (.iconst (-1), 1) := by decide +kernel
theorem dX2_timeAt_19 : decode cX2_timeAt 19 = .ok (.if_icmp .eq 14, 3) := by decide +kernel
theorem dX2_timeAt_22 : decode cX2_timeAt 22 = .ok (.iload_n 3, 1) := by decide +kernel
theorem dX2_timeAt_23 : decode cX2_timeAt 23 = .ok (.iconst (-1), 1) := by decide +kernel
theorem dX2_timeAt_24 : decode cX2_timeAt 24 = .ok (.if_icmp .eq 9, 3) := by decide +kernel
theorem dX2_timeAt_27 : decode cX2_timeAt 27 = .ok (.iload_n 3, 1) := by decide +kernel
theorem dX2_timeAt_28 : decode cX2_timeAt 28 = .ok (.bipush 59, 2) := by decide +kernel
theorem dX2_timeAt_30 : decode cX2_timeAt 30 = .ok (.if_icmp .le 7, 3) := by decide +kernel
theorem dX2_timeAt_33 : decode cX2_timeAt 33 = .ok (.iconst (-1), 1) := by decide +kernel
theorem dX2_timeAt_34 : decode cX2_timeAt 34 = .ok (.goto 6, 3) := by decide +kernel
theorem dX2_timeAt_37 : decode cX2_timeAt 37 = .ok (.iload_n 2, 1) := by decide +kernel
theorem dX2_timeAt_38 : decode cX2_timeAt 38 = .ok (.iload_n 3, 1) := by decide +kernel
theorem dX2_timeAt_39 : decode cX2_timeAt 39 = .ok (.iadd, 1) := by decide +kernel
theorem dX2_timeAt_40 : decode cX2_timeAt 40 = .ok (.ireturn, 1) := by decide +kernel
theorem dX2_hourAt_0 : decode cX2_hourAt 0 = .ok (.aload_n 0, 1) := by decide +kernel
theorem dX2_hourAt_1 : decode cX2_hourAt 1 = .ok (.iload_n 1, 1) := by decide +kernel
theorem dX2_hourAt_2 : decode cX2_hourAt 2 = .ok (.iconst 2, 1) := by decide +kernel
theorem dX2_hourAt_3 : decode cX2_hourAt 3 = .ok (.invokevirtual 174, 3) := by decide +kernel
theorem dX2_hourAt_6 : decode cX2_hourAt 6 = .ok (.istore_n 3, 1) := by decide +kernel
theorem dX2_hourAt_7 : decode cX2_hourAt 7 = .ok (.aload_n 0, 1) := by decide +kernel
theorem dX2_hourAt_8 : decode cX2_hourAt 8 = .ok (.iload_n 1, 1) := by decide +kernel
theorem dX2_hourAt_9 : decode cX2_hourAt 9 = .ok (.iconst 2, 1) := by decide +kernel
theorem dX2_hourAt_10 : decode cX2_hourAt 10 = .ok (.iadd, 1) := by decide +kernel
theorem dX2_hourAt_11 : decode cX2_hourAt 11 = .ok (.iconst 2, 1) := by decide +kernel
theorem dX2_hourAt_12 : decode cX2_hourAt 12 = .ok (.invokevirtual 174, 3) := by decide +kernel
theorem dX2_hourAt_15 : decode cX2_hourAt 15 = .ok (.istore 4, 2) := by decide +kernel
theorem dX2_hourAt_17 : decode cX2_hourAt 17 = .ok (.iload_n 3, 1) := by decide +kernel
theorem dX2_hourAt_18 : decode cX2_hourAt 18 = .ok (.iconst 1, 1) := by decide +kernel
theorem dX2_hourAt_19 : decode cX2_hourAt 19 = .ok (.if_icmp .lt 23, 3) := by decide +kernel
theorem dX2_hourAt_22 : decode cX2_hourAt 22 = .ok (.iload_n 3, 1) := by decide +kernel
theorem dX2_hourAt_23 : decode cX2_hourAt 23 = .ok (.aload_n 0, 1) := by decide +kernel
theorem dX2_hourAt_24 : decode cX2_hourAt 24 = .ok (.getfield 25, 3) := by decide +kernel
theorem dX2_hourAt_27 : decode cX2_hourAt 27 = .ok (.if_icmp .gt 15, 3) := by decide +kernel
theorem dX2_hourAt_30 : decode cX2_hourAt 30 = .ok (.iload 4, 2) := by decide +kernel
theorem dX2_hourAt_32 : decode cX2_hourAt 32 = .ok (.iconst (-1), 1) := by decide +kernel
theorem dX2_hourAt_33 : decode cX2_hourAt 33 = .ok (.if_icmp .eq 9, 3) := by decide +kernel
theorem dX2_hourAt_36 : decode cX2_hourAt 36 = .ok (.iload 4, 2) := by decide +kernel
theorem dX2_hourAt_38 : decode cX2_hourAt 38 = .ok (.iload_n 2, 1) := by decide +kernel
theorem dX2_hourAt_39 : decode cX2_hourAt 39 = .ok (.if_icmp .le 5, 3) := by decide +kernel
theorem dX2_hourAt_42 : decode cX2_hourAt 42 = .ok (.iconst (-1), 1) := by decide +kernel
theorem dX2_hourAt_43 : decode cX2_hourAt 43 = .ok (.ireturn, 1) := by decide +kernel
theorem dX2_hourAt_44 : decode cX2_hourAt 44 = .ok (.iload_n 3, 1) := by decide +kernel
theorem dX2_hourAt_45 : decode cX2_hourAt 45 = .ok (.iconst 1, 1) := by decide +kernel
theorem dX2_hourAt_46 : decode cX2_hourAt 46 = .ok (.isub, 1) := by decide +kernel
theorem dX2_hourAt_47 : decode cX2_hourAt 47 = .ok (.sipush 1440, 3) := by decide +kernel
theorem dX2_hourAt_50 : decode cX2_hourAt 50 = .ok (.imul, 1) := by decide +kernel
theorem dX2_hourAt_51 : decode cX2_hourAt 51 = .ok (.iload 4, 2) := by decide +kernel
theorem dX2_hourAt_53 : decode cX2_hourAt 53 = .ok (.bipush 60, 2) := by decide +kernel
theorem dX2_hourAt_55 : decode cX2_hourAt 55 = .ok (.imul, 1) := by decide +kernel
theorem dX2_hourAt_56 : decode cX2_hourAt 56 = .ok (.iadd, 1) := by decide +kernel
theorem dX2_hourAt_57 : decode cX2_hourAt 57 = .ok (.ireturn, 1) := by decide +kernel
theorem dX2_degreesAt_0 : decode cX2_degreesAt 0 = .ok (.aload_n 0, 1) := by decide +kernel
theorem dX2_degreesAt_1 : decode cX2_degreesAt 1 = .ok (.iload_n 1, 1) := by decide +kernel
theorem dX2_degreesAt_2 : decode cX2_degreesAt 2 = .ok (.ldc_w 265, 3) := by decide +kernel
theorem dX2_degreesAt_5 : decode cX2_degreesAt 5 = .ok (.invokevirtual 195, 3) := by decide +kernel
theorem dX2_degreesAt_8 : decode cX2_degreesAt 8 = .ok (.istore_n 2, 1) := by decide +kernel
theorem dX2_degreesAt_9 : decode cX2_degreesAt 9 = .ok (.aload_n 0, 1) := by decide +kernel
theorem dX2_degreesAt_10 : decode cX2_degreesAt 10 = .ok (.iload_n 2, 1) := by decide +kernel
theorem dX2_degreesAt_11 : decode cX2_degreesAt 11 = .ok (.ifCond .eq 9, 3) := by decide +kernel
theorem dX2_degreesAt_14 : decode cX2_degreesAt 14 = .ok (.iload_n 1, 1) := by decide +kernel
theorem dX2_degreesAt_15 : decode cX2_degreesAt 15 = .ok (.iconst 1, 1) := by decide +kernel
theorem dX2_degreesAt_16 : decode cX2_degreesAt 16 = .ok (.iadd, 1) := by decide +kernel
theorem dX2_degreesAt_17 : decode cX2_degreesAt 17 = .ok (.goto 4, 3) := by decide +kernel
theorem dX2_degreesAt_20 : decode cX2_degreesAt 20 = .ok (.iload_n 1, 1) := by decide +kernel
theorem dX2_degreesAt_21 : decode cX2_degreesAt 21 = .ok (.iconst 2, 1) := by decide +kernel
theorem dX2_degreesAt_22 : decode cX2_degreesAt 22 = .ok (.invokevirtual 174, 3) := by decide +kernel
theorem dX2_degreesAt_25 : decode cX2_degreesAt 25 = .ok (.istore_n 3, 1) := by decide +kernel
theorem dX2_degreesAt_26 : decode cX2_degreesAt 26 = .ok (.iload_n 3, 1) := by decide +kernel
theorem dX2_degreesAt_27 : decode cX2_degreesAt 27 = .ok (.iconst (-1), 1) := by decide +kernel
theorem dX2_degreesAt_28 : decode cX2_degreesAt 28 = .ok (.if_icmp .ne 7, 3) := by decide +kernel
theorem dX2_degreesAt_31 : decode cX2_degreesAt 31 = .ok (.sipush (-1001), 3) := by decide +kernel
theorem dX2_degreesAt_34 : decode cX2_degreesAt 34 = .ok (.ireturn, 1) := by decide +kernel
theorem dX2_degreesAt_35 : decode cX2_degreesAt 35 = .ok (.iload_n 2, 1) := by decide +kernel
theorem dX2_degreesAt_36 : decode cX2_degreesAt 36 = .ok (.ifCond .eq 8, 3) := by decide +kernel
theorem dX2_degreesAt_39 : decode cX2_degreesAt 39 = .ok (.iload_n 3, 1) := by decide +kernel
theorem dX2_degreesAt_40 : decode cX2_degreesAt 40 = .ok (.ineg, 1) := by decide +kernel
theorem dX2_degreesAt_41 : decode cX2_degreesAt 41 = .ok (.goto 4, 3) := by decide +kernel
theorem dX2_degreesAt_44 : decode cX2_degreesAt 44 = .ok (.iload_n 3, 1) := by decide +kernel
theorem dX2_degreesAt_45 : decode cX2_degreesAt 45 = .ok (.ireturn, 1) := by decide +kernel
theorem dX2_digits_0 : decode cX2_digits 0 = .ok (.iload_n 1, 1) := by decide +kernel
theorem dX2_digits_1 : decode cX2_digits 1 = .ok (.ifCond .lt 11, 3) := by decide +kernel
theorem dX2_digits_4 : decode cX2_digits 4 = .ok (.iload_n 1, 1) := by decide +kernel
theorem dX2_digits_5 : decode cX2_digits 5 = .ok (.iload_n 2, 1) := by decide +kernel
theorem dX2_digits_6 : decode cX2_digits 6 = .ok (.iadd, 1) := by decide +kernel
theorem dX2_digits_7 : decode cX2_digits 7 = .ok (.bipush 16, 2) := by decide +kernel
theorem dX2_digits_9 : decode cX2_digits 9 = .ok (.if_icmp .le 5, 3) := by decide +kernel
theorem dX2_digits_12 : decode cX2_digits 12 = .ok (.iconst (-1), 1) := by decide +kernel
theorem dX2_digits_13 : decode cX2_digits 13 = .ok (.ireturn, 1) := by decide +kernel
theorem dX2_digits_14 : decode cX2_digits 14 = .ok (.iconst 0, 1) := by decide +kernel
theorem dX2_digits_15 : decode cX2_digits 15 = .ok (.istore_n 3, 1) := by decide +kernel
theorem dX2_digits_16 : decode cX2_digits 16 = .ok (.iload_n 1, 1) := by decide +kernel
theorem dX2_digits_17 : decode cX2_digits 17 = .ok (.istore 4, 2) := by decide +kernel
theorem dX2_digits_19 : decode cX2_digits 19 = .ok (.iload 4, 2) := by decide +kernel
theorem dX2_digits_21 : decode cX2_digits 21 = .ok (.iload_n 1, 1) := by decide +kernel
theorem dX2_digits_22 : decode cX2_digits 22 = .ok (.iload_n 2, 1) := by decide +kernel
theorem dX2_digits_23 : decode cX2_digits 23 = .ok (.iadd, 1) := by decide +kernel
theorem dX2_digits_24 : decode cX2_digits 24 = .ok (.if_icmp .ge 51, 3) := by decide +kernel
theorem dX2_digits_27 : decode cX2_digits 27 = .ok (.aload_n 0, 1) := by decide +kernel
theorem dX2_digits_28 : decode cX2_digits 28 = .ok (.getfield 21, 3) := by decide +kernel
theorem dX2_digits_31 : decode cX2_digits 31 = .ok (.iload 4, 2) := by decide +kernel
theorem dX2_digits_33 : decode cX2_digits 33 = .ok (.caload, 1) := by decide +kernel
theorem dX2_digits_34 : decode cX2_digits 34 = .ok (.bipush 48, 2) := by decide +kernel
theorem dX2_digits_36 : decode cX2_digits 36 = .ok (.if_icmp .lt 15, 3) := by decide +kernel
theorem dX2_digits_39 : decode cX2_digits 39 = .ok (.aload_n 0, 1) := by decide +kernel
theorem dX2_digits_40 : decode cX2_digits 40 = .ok (.getfield 21, 3) := by decide +kernel
theorem dX2_digits_43 : decode cX2_digits 43 = .ok (.iload 4, 2) := by decide +kernel
theorem dX2_digits_45 : decode cX2_digits 45 = .ok (.caload, 1) := by decide +kernel
theorem dX2_digits_46 : decode cX2_digits 46 = .ok (.bipush 57, 2) := by decide +kernel
theorem dX2_digits_48 : decode cX2_digits 48 = .ok (.if_icmp .le 5, 3) := by decide +kernel
theorem dX2_digits_51 : decode cX2_digits 51 = .ok (.iconst (-1), 1) := by decide +kernel
theorem dX2_digits_52 : decode cX2_digits 52 = .ok (.ireturn, 1) := by decide +kernel
theorem dX2_digits_53 : decode cX2_digits 53 = .ok (.iload_n 3, 1) := by decide +kernel
theorem dX2_digits_54 : decode cX2_digits 54 = .ok (.bipush 10, 2) := by decide +kernel
theorem dX2_digits_56 : decode cX2_digits 56 = .ok (.imul, 1) := by decide +kernel
theorem dX2_digits_57 : decode cX2_digits 57 = .ok (.aload_n 0, 1) := by decide +kernel
theorem dX2_digits_58 : decode cX2_digits 58 = .ok (.getfield 21, 3) := by decide +kernel
theorem dX2_digits_61 : decode cX2_digits 61 = .ok (.iload 4, 2) := by decide +kernel
theorem dX2_digits_63 : decode cX2_digits 63 = .ok (.caload, 1) := by decide +kernel
theorem dX2_digits_64 : decode cX2_digits 64 = .ok (.bipush 48, 2) := by decide +kernel
theorem dX2_digits_66 : decode cX2_digits 66 = .ok (.isub, 1) := by decide +kernel
theorem dX2_digits_67 : decode cX2_digits 67 = .ok (.iadd, 1) := by decide +kernel
theorem dX2_digits_68 : decode cX2_digits 68 = .ok (.istore_n 3, 1) := by decide +kernel
theorem dX2_digits_69 : decode cX2_digits 69 = .ok (.iinc 4 1, 3) := by decide +kernel
theorem dX2_digits_72 : decode cX2_digits 72 = .ok (.goto (-53), 3) := by decide +kernel
theorem dX2_digits_75 : decode cX2_digits 75 = .ok (.iload_n 3, 1) := by decide +kernel
theorem dX2_digits_76 : decode cX2_digits 76 = .ok (.ireturn, 1) := by decide +kernel
theorem dX2_pairAt_0 : decode cX2_pairAt 0 = .ok (.iload_n 1, 1) := by decide +kernel
theorem dX2_pairAt_1 : decode cX2_pairAt 1 = .ok (.ifCond .lt 11, 3) := by decide +kernel
theorem dX2_pairAt_4 : decode cX2_pairAt 4 = .ok (.iload_n 1, 1) := by decide +kernel
theorem dX2_pairAt_5 : decode cX2_pairAt 5 = .ok (.iconst 2, 1) := by decide +kernel
theorem dX2_pairAt_6 : decode cX2_pairAt 6 = .ok (.iadd, 1) := by decide +kernel
theorem dX2_pairAt_7 : decode cX2_pairAt 7 = .ok (.bipush 16, 2) := by decide +kernel
theorem dX2_pairAt_9 : decode cX2_pairAt 9 = .ok (.if_icmp .le 5, 3) := by decide +kernel
theorem dX2_pairAt_12 : decode cX2_pairAt 12 = .ok (.iconst (-1), 1) := by decide +kernel
theorem dX2_pairAt_13 : decode cX2_pairAt 13 = .ok (.ireturn, 1) := by decide +kernel
theorem dX2_pairAt_14 : decode cX2_pairAt 14 = .ok (.iconst 0, 1) := by decide +kernel
theorem dX2_pairAt_15 : decode cX2_pairAt 15 = .ok (.istore_n 3, 1) := by decide +kernel
theorem dX2_pairAt_16 : decode cX2_pairAt 16 = .ok (.iload_n 3, 1) := by decide +kernel
theorem dX2_pairAt_17 : decode cX2_pairAt 17 = .ok (.iconst 1, 1) := by decide +kernel
theorem dX2_pairAt_18 : decode cX2_pairAt 18 = .ok (.iadd, 1) := by decide +kernel
theorem dX2_pairAt_19 : decode cX2_pairAt 19 = .ok (.aload_n 2, 1) := by decide +kernel
theorem dX2_pairAt_20 : decode cX2_pairAt 20 = .ok (.invokevirtual 257, 3) := by decide +kernel
theorem dX2_pairAt_23 : decode cX2_pairAt 23 = .ok (.if_icmp .ge 45, 3) := by decide +kernel
theorem dX2_pairAt_26 : decode cX2_pairAt 26 = .ok (.aload_n 0, 1) := by decide +kernel
theorem dX2_pairAt_27 : decode cX2_pairAt 27 = .ok (.getfield 21, 3) := by decide +kernel
theorem dX2_pairAt_30 : decode cX2_pairAt 30 = .ok (.iload_n 1, 1) := by decide +kernel
theorem dX2_pairAt_31 : decode cX2_pairAt 31 = .ok (.caload, 1) := by decide +kernel
theorem dX2_pairAt_32 : decode cX2_pairAt 32 = .ok (.aload_n 2, 1) := by decide +kernel
theorem dX2_pairAt_33 : decode cX2_pairAt 33 = .ok (.iload_n 3, 1) := by decide +kernel
theorem dX2_pairAt_34 : decode cX2_pairAt 34 = .ok (.invokevirtual 261, 3) := by decide +kernel
theorem dX2_pairAt_37 : decode cX2_pairAt 37 = .ok (.if_icmp .ne 25, 3) := by decide +kernel
theorem dX2_pairAt_40 : decode cX2_pairAt 40 = .ok (.aload_n 0, 1) := by decide +kernel
theorem dX2_pairAt_41 : decode cX2_pairAt 41 = .ok (.getfield 21, 3) := by decide +kernel
theorem dX2_pairAt_44 : decode cX2_pairAt 44 = .ok (.iload_n 1, 1) := by decide +kernel
theorem dX2_pairAt_45 : decode cX2_pairAt 45 = .ok (.iconst 1, 1) := by decide +kernel
theorem dX2_pairAt_46 : decode cX2_pairAt 46 = .ok (.iadd, 1) := by decide +kernel
theorem dX2_pairAt_47 : decode cX2_pairAt 47 = .ok (.caload, 1) := by decide +kernel
theorem dX2_pairAt_48 : decode cX2_pairAt 48 = .ok (.aload_n 2, 1) := by decide +kernel
theorem dX2_pairAt_49 : decode cX2_pairAt 49 = .ok (.iload_n 3, 1) := by decide +kernel
theorem dX2_pairAt_50 : decode cX2_pairAt 50 = .ok (.iconst 1, 1) := by decide +kernel
theorem dX2_pairAt_51 : decode cX2_pairAt 51 = .ok (.iadd, 1) := by decide +kernel
theorem dX2_pairAt_52 : decode cX2_pairAt 52 = .ok (.invokevirtual 261, 3) := by decide +kernel
theorem dX2_pairAt_55 : decode cX2_pairAt 55 = .ok (.if_icmp .ne 7, 3) := by decide +kernel
theorem dX2_pairAt_58 : decode cX2_pairAt 58 = .ok (.iload_n 3, 1) := by decide +kernel
theorem dX2_pairAt_59 : decode cX2_pairAt 59 = .ok (.iconst 2, 1) := by decide +kernel
theorem dX2_pairAt_60 : decode cX2_pairAt 60 = .ok (.idiv, 1) := by decide +kernel
theorem dX2_pairAt_61 : decode cX2_pairAt 61 = .ok (.ireturn, 1) := by decide +kernel
theorem dX2_pairAt_62 : decode cX2_pairAt 62 = .ok (.iinc 3 2, 3) := by decide +kernel
theorem dX2_pairAt_65 : decode cX2_pairAt 65 = .ok (.goto (-49), 3) := by decide +kernel
theorem dX2_pairAt_68 : decode cX2_pairAt 68 = .ok (.iconst (-1), 1) := by decide +kernel
theorem dX2_pairAt_69 : decode cX2_pairAt 69 = .ok (.ireturn, 1) := by decide +kernel
theorem dX2_holds_0 : decode cX2_holds 0 = .ok (.iload_n 1, 1) := by decide +kernel
theorem dX2_holds_1 : decode cX2_holds 1 = .ok (.ifCond .lt 14, 3) := by decide +kernel
theorem dX2_holds_4 : decode cX2_holds 4 = .ok (.iload_n 1, 1) := by decide +kernel
theorem dX2_holds_5 : decode cX2_holds 5 = .ok (.aload_n 2, 1) := by decide +kernel
theorem dX2_holds_6 : decode cX2_holds 6 = .ok (.invokevirtual 257, 3) := by decide +kernel
theorem dX2_holds_9 : decode cX2_holds 9 = .ok (.iadd, 1) := by decide +kernel
theorem dX2_holds_10 : decode cX2_holds 10 = .ok (.bipush 16, 2) := by decide +kernel
theorem dX2_holds_12 : decode cX2_holds 12 = .ok (.if_icmp .le 5, 3) := by decide +kernel
theorem dX2_holds_15 : decode cX2_holds 15 = .ok (.iconst 0, 1) := by decide +kernel
theorem dX2_holds_16 : decode cX2_holds 16 = .ok (.ireturn, 1) := by decide +kernel
theorem dX2_holds_17 : decode cX2_holds 17 = .ok (.iconst 0, 1) := by decide +kernel
theorem dX2_holds_18 : decode cX2_holds 18 = .ok (.istore_n 3, 1) := by decide +kernel
theorem dX2_holds_19 : decode cX2_holds 19 = .ok (.iload_n 3, 1) := by decide +kernel
theorem dX2_holds_20 : decode cX2_holds 20 = .ok (.aload_n 2, 1) := by decide +kernel
theorem dX2_holds_21 : decode cX2_holds 21 = .ok (.invokevirtual 257, 3) := by decide +kernel
theorem dX2_holds_24 : decode cX2_holds 24 = .ok (.if_icmp .ge 27, 3) := by decide +kernel
theorem dX2_holds_27 : decode cX2_holds 27 = .ok (.aload_n 0, 1) := by decide +kernel
theorem dX2_holds_28 : decode cX2_holds 28 = .ok (.getfield 21, 3) := by decide +kernel
theorem dX2_holds_31 : decode cX2_holds 31 = .ok (.iload_n 1, 1) := by decide +kernel
theorem dX2_holds_32 : decode cX2_holds 32 = .ok (.iload_n 3, 1) := by decide +kernel
theorem dX2_holds_33 : decode cX2_holds 33 = .ok (.iadd, 1) := by decide +kernel
theorem dX2_holds_34 : decode cX2_holds 34 = .ok (.caload, 1) := by decide +kernel
theorem dX2_holds_35 : decode cX2_holds 35 = .ok (.aload_n 2, 1) := by decide +kernel
theorem dX2_holds_36 : decode cX2_holds 36 = .ok (.iload_n 3, 1) := by decide +kernel
theorem dX2_holds_37 : decode cX2_holds 37 = .ok (.invokevirtual 261, 3) := by decide +kernel
theorem dX2_holds_40 : decode cX2_holds 40 = .ok (.if_icmp .eq 5, 3) := by decide +kernel
theorem dX2_holds_43 : decode cX2_holds 43 = .ok (.iconst 0, 1) := by decide +kernel
theorem dX2_holds_44 : decode cX2_holds 44 = .ok (.ireturn, 1) := by decide +kernel
theorem dX2_holds_45 : decode cX2_holds 45 = .ok (.iinc 3 1, 3) := by decide +kernel
theorem dX2_holds_48 : decode cX2_holds 48 = .ok (.goto (-29), 3) := by decide +kernel
theorem dX2_holds_51 : decode cX2_holds 51 = .ok (.iconst 1, 1) := by decide +kernel
theorem dX2_holds_52 : decode cX2_holds 52 = .ok (.ireturn, 1) := by decide +kernel
theorem dX2_takeWord_0 : decode cX2_takeWord 0 = .ok (.aload_n 0, 1) := by decide +kernel
theorem dX2_takeWord_1 : decode cX2_takeWord 1 = .ok (.getfield 18, 3) := by decide +kernel
theorem dX2_takeWord_4 : decode cX2_takeWord 4 = .ok (.aload_n 1, 1) := by decide +kernel
theorem dX2_takeWord_5 : decode cX2_takeWord 5 = .ok (.invokevirtual 257, 3) := by decide +kernel
theorem dX2_takeWord_8 : decode cX2_takeWord 8 = .ok (.if_icmp .ne 23, 3) := by decide +kernel
theorem dX2_takeWord_11 : decode cX2_takeWord 11 = .ok (.aload_n 0, 1) := by decide +kernel
theorem dX2_takeWord_12 : decode cX2_takeWord 12 = .ok (.iconst 0, 1) := by decide +kernel
theorem dX2_takeWord_13 : decode cX2_takeWord 13 = .ok (.aload_n 1, 1) := by decide +kernel
theorem dX2_takeWord_14 : decode cX2_takeWord 14 = .ok (.invokevirtual 195, 3) := by decide +kernel
theorem dX2_takeWord_17 : decode cX2_takeWord 17 = .ok (.ifCond .eq 14, 3) := by decide +kernel
theorem dX2_takeWord_20 : decode cX2_takeWord 20 = .ok (.aload_n 0, 1) := by decide +kernel
theorem dX2_takeWord_21 : decode cX2_takeWord 21 = .ok (.invokevirtual 50, 3) := by decide +kernel
theorem dX2_takeWord_24 : decode cX2_takeWord 24 = .ok (.ifCond .eq 7, 3) := by decide +kernel
theorem dX2_takeWord_27 : decode cX2_takeWord 27 = .ok (.iconst 1, 1) := by decide +kernel
theorem dX2_takeWord_28 : decode cX2_takeWord 28 = .ok (.goto 4, 3) := by decide +kernel
theorem dX2_takeWord_31 : decode cX2_takeWord 31 = .ok (.iconst 0, 1) := by decide +kernel
theorem dX2_takeWord_32 : decode cX2_takeWord 32 = .ok (.ireturn, 1) := by decide +kernel
theorem dX2_takeToken_0 : decode cX2_takeToken 0 = .ok (.aload_n 0, 1) := by decide +kernel
theorem dX2_takeToken_1 : decode cX2_takeToken 1 = .ok (.getfield 15, 3) := by decide +kernel
theorem dX2_takeToken_4 : decode cX2_takeToken 4 = .ok (.aload_n 0, 1) := by decide +kernel
theorem dX2_takeToken_5 : decode cX2_takeToken 5 = .ok (.getfield 18, 3) := by decide +kernel
theorem dX2_takeToken_8 : decode cX2_takeToken 8 = .ok (.iadd, 1) := by decide +kernel
theorem dX2_takeToken_9 : decode cX2_takeToken 9 = .ok (.istore_n 1, 1) := by decide +kernel
theorem dX2_takeToken_10 : decode cX2_takeToken 10 = .ok (.iload_n 1, 1) := by decide +kernel
theorem dX2_takeToken_11 : decode cX2_takeToken 11 = .ok (.aload_n 0, 1) := by decide +kernel
theorem dX2_takeToken_12 : decode cX2_takeToken 12 = .ok (.getfield 9, 3) := by decide +kernel
theorem dX2_takeToken_15 : decode cX2_takeToken 15 = .ok (.if_icmp .ge 20, 3) := by decide +kernel
theorem dX2_takeToken_18 : decode cX2_takeToken 18 = .ok (.aload_n 0, 1) := by decide +kernel
theorem dX2_takeToken_19 : decode cX2_takeToken 19 = .ok (.getfield 31, 3) := by decide +kernel
theorem dX2_takeToken_22 : decode cX2_takeToken 22 = .ok (.iload_n 1, 1) := by decide +kernel
theorem dX2_takeToken_23 : decode cX2_takeToken 23 = .ok (.caload, 1) := by decide +kernel
theorem dX2_takeToken_24 : decode cX2_takeToken 24 = .ok (.bipush 32, 2) := by decide +kernel
theorem dX2_takeToken_26 : decode cX2_takeToken 26 = .ok (.if_icmp .ne 9, 3) := by decide +kernel
theorem dX2_takeToken_29 : decode cX2_takeToken 29 = .ok (.iinc 1 1, 3) := by decide +kernel
theorem dX2_takeToken_32 : decode cX2_takeToken 32 = .ok (.goto (-22), 3) := by decide +kernel
theorem dX2_takeToken_35 : decode cX2_takeToken 35 = .ok (.iload_n 1, 1) := by decide +kernel
theorem dX2_takeToken_36 : decode cX2_takeToken 36 = .ok (.istore_n 2, 1) := by decide +kernel
theorem dX2_takeToken_37 : decode cX2_takeToken 37 = .ok (.iload_n 2, 1) := by decide +kernel
theorem dX2_takeToken_38 : decode cX2_takeToken 38 = .ok (.aload_n 0, 1) := by decide +kernel
theorem dX2_takeToken_39 : decode cX2_takeToken 39 = .ok (.getfield 9, 3) := by decide +kernel
theorem dX2_takeToken_42 : decode cX2_takeToken 42 = .ok (.if_icmp .ge 20, 3) := by decide +kernel
theorem dX2_takeToken_45 : decode cX2_takeToken 45 = .ok (.aload_n 0, 1) := by decide +kernel
theorem dX2_takeToken_46 : decode cX2_takeToken 46 = .ok (.getfield 31, 3) := by decide +kernel
theorem dX2_takeToken_49 : decode cX2_takeToken 49 = .ok (.iload_n 2, 1) := by decide +kernel
theorem dX2_takeToken_50 : decode cX2_takeToken 50 = .ok (.caload, 1) := by decide +kernel
theorem dX2_takeToken_51 : decode cX2_takeToken 51 = .ok (.bipush 32, 2) := by decide +kernel
theorem dX2_takeToken_53 : decode cX2_takeToken 53 = .ok (.if_icmp .eq 9, 3) := by decide +kernel
theorem dX2_takeToken_56 : decode cX2_takeToken 56 = .ok (.iinc 2 1, 3) := by decide +kernel
theorem dX2_takeToken_59 : decode cX2_takeToken 59 = .ok (.goto (-22), 3) := by decide +kernel
theorem dX2_takeToken_62 : decode cX2_takeToken 62 = .ok (.aload_n 0, 1) := by decide +kernel
theorem dX2_takeToken_63 : decode cX2_takeToken 63 = .ok (.iload_n 1, 1) := by decide +kernel
theorem dX2_takeToken_64 : decode cX2_takeToken 64 = .ok (.putfield 15, 3) := by decide +kernel
theorem dX2_takeToken_67 : decode cX2_takeToken 67 = .ok (.aload_n 0, 1) := by decide +kernel
theorem dX2_takeToken_68 : decode cX2_takeToken 68 = .ok (.iload_n 2, 1) := by decide +kernel
theorem dX2_takeToken_69 : decode cX2_takeToken 69 = .ok (.iload_n 1, 1) := by decide +kernel
theorem dX2_takeToken_70 : decode cX2_takeToken 70 = .ok (.isub, 1) := by decide +kernel
theorem dX2_takeToken_71 : decode cX2_takeToken 71 = .ok (.putfield 18, 3) := by decide +kernel
theorem dX2_takeToken_74 : decode cX2_takeToken 74 = .ok (.iconst 0, 1) := by decide +kernel
theorem dX2_takeToken_75 : decode cX2_takeToken 75 = .ok (.istore_n 3, 1) := by decide +kernel
theorem dX2_takeToken_76 : decode cX2_takeToken 76 = .ok (.iload_n 3, 1) := by decide +kernel
theorem dX2_takeToken_77 : decode cX2_takeToken 77 = .ok (.bipush 16, 2) := by decide +kernel
theorem dX2_takeToken_79 : decode cX2_takeToken 79 = .ok (.if_icmp .ge 35, 3) := by decide +kernel
theorem dX2_takeToken_82 : decode cX2_takeToken 82 = .ok (.aload_n 0, 1) := by decide +kernel
theorem dX2_takeToken_83 : decode cX2_takeToken 83 = .ok (.getfield 21, 3) := by decide +kernel
theorem dX2_takeToken_86 : decode cX2_takeToken 86 = .ok (.iload_n 3, 1) := by decide +kernel
theorem dX2_takeToken_87 : decode cX2_takeToken 87 = .ok (.iload_n 3, 1) := by decide +kernel
theorem dX2_takeToken_88 : decode cX2_takeToken 88 = .ok (.aload_n 0, 1) := by decide +kernel
theorem dX2_takeToken_89 : decode cX2_takeToken 89 = .ok (.getfield 18, 3) := by decide +kernel
theorem dX2_takeToken_92 : decode cX2_takeToken 92 = .ok (.if_icmp .ge 14, 3) := by decide +kernel
theorem dX2_takeToken_95 : decode cX2_takeToken 95 = .ok (.aload_n 0, 1) := by decide +kernel
theorem dX2_takeToken_96 : decode cX2_takeToken 96 = .ok (.getfield 31, 3) := by decide +kernel
theorem dX2_takeToken_99 : decode cX2_takeToken 99 = .ok (.iload_n 1, 1) := by decide +kernel
theorem dX2_takeToken_100 : decode cX2_takeToken 100 = .ok (.iload_n 3, 1) := by decide +kernel
theorem dX2_takeToken_101 : decode cX2_takeToken 101 = .ok (.iadd, 1) := by decide +kernel
theorem dX2_takeToken_102 : decode cX2_takeToken 102 = .ok (.caload, 1) := by decide +kernel
theorem dX2_takeToken_103 : decode cX2_takeToken 103 = .ok (.goto 4, 3) := by decide +kernel
theorem dX2_takeToken_106 : decode cX2_takeToken 106 = .ok (.iconst 0, 1) := by decide +kernel
theorem dX2_takeToken_107 : decode cX2_takeToken 107 = .ok (.castore, 1) := by decide +kernel
theorem dX2_takeToken_108 : decode cX2_takeToken 108 = .ok (.iinc 3 1, 3) := by decide +kernel
theorem dX2_takeToken_111 : decode cX2_takeToken 111 = .ok (.goto (-35), 3) := by decide +kernel
theorem dX2_takeToken_114 : decode cX2_takeToken 114 = .ok (.iconst 1, 1) := by decide +kernel
theorem dX2_takeToken_115 : decode cX2_takeToken 115 = .ok (.ireturn, 1) := by decide +kernel
end
section
theorem dX4_init_0 : decode cX4_init 0 = .ok (.aload_n 0, 1) := by decide +kernel
theorem dX4_init_1 : decode cX4_init 1 = .ok (.invokespecial 1, 3) := by decide +kernel
theorem dX4_init_4 : decode cX4_init 4 = .ok (.aload_n 0, 1) := by decide +kernel
theorem dX4_init_5 : decode cX4_init 5 = .ok (.sipush 700, 3) := by decide +kernel
theorem dX4_init_8 : decode cX4_init 8 = .ok (.newarray .int, 2) := by decide +kernel
theorem dX4_init_10 : decode cX4_init 10 = .ok (.putfield 7, 3) := by decide +kernel
theorem dX4_init_13 : decode cX4_init 13 = .ok (.aload_n 0, 1) := by decide +kernel
theorem dX4_init_14 : decode cX4_init 14 = .ok (.sipush 351, 3) := by decide +kernel
theorem dX4_init_17 : decode cX4_init 17 = .ok (.newarray .int, 2) := by decide +kernel
theorem dX4_init_19 : decode cX4_init 19 = .ok (.putfield 13, 3) := by decide +kernel
theorem dX4_init_22 : decode cX4_init 22 = .ok (.aload_n 0, 1) := by decide +kernel
theorem dX4_init_23 : decode cX4_init 23 = .ok (.sipush 351, 3) := by decide +kernel
theorem dX4_init_26 : decode cX4_init 26 = .ok (.newarray .int, 2) := by decide +kernel
theorem dX4_init_28 : decode cX4_init 28 = .ok (.putfield 16, 3) := by decide +kernel
theorem dX4_init_31 : decode cX4_init 31 = .ok (.aload_n 0, 1) := by decide +kernel
theorem dX4_init_32 : decode cX4_init 32 = .ok (.iconst 4, 1) := by decide +kernel
theorem dX4_init_33 : decode cX4_init 33 = .ok (.newarray .int, 2) := by decide +kernel
theorem dX4_init_35 : decode cX4_init 35 = .ok (.putfield 19, 3) := by decide +kernel
theorem dX4_init_38 : decode cX4_init 38 = .ok (.aload_n 0, 1) := by decide +kernel
theorem dX4_init_39 : decode cX4_init 39 = .ok (.bipush 90, 2) := by decide +kernel
theorem dX4_init_41 : decode cX4_init 41 = .ok (.newarray .int, 2) := by decide +kernel
theorem dX4_init_43 : decode cX4_init 43 = .ok (.putfield 22, 3) := by decide +kernel
theorem dX4_init_46 : decode cX4_init 46 = .ok (.aload_n 0, 1) := by decide +kernel
theorem dX4_init_47 : decode cX4_init 47 = .ok (.bipush 27, 2) := by decide +kernel
theorem dX4_init_49 : decode cX4_init 49 = .ok (.newarray .int, 2) := by decide +kernel
theorem dX4_init_51 : decode cX4_init 51 = .ok (.putfield 25, 3) := by decide +kernel
theorem dX4_init_54 : decode cX4_init 54 = .ok (.aload_n 0, 1) := by decide +kernel
theorem dX4_init_55 : decode cX4_init 55 = .ok (.bipush 36, 2) := by decide +kernel
theorem dX4_init_57 : decode cX4_init 57 = .ok (.newarray .int, 2) := by decide +kernel
theorem dX4_init_59 : decode cX4_init 59 = .ok (.putfield 28, 3) := by decide +kernel
theorem dX4_init_62 : decode cX4_init 62 = .ok (.aload_n 0, 1) := by decide +kernel
theorem dX4_init_63 : decode cX4_init 63 = .ok (.iconst 4, 1) := by decide +kernel
theorem dX4_init_64 : decode cX4_init 64 = .ok (.newarray .int, 2) := by decide +kernel
theorem dX4_init_66 : decode cX4_init 66 = .ok (.putfield 31, 3) := by decide +kernel
theorem dX4_init_69 : decode cX4_init 69 = .ok (.aload_n 0, 1) := by decide +kernel
theorem dX4_init_70 : decode cX4_init 70 = .ok (.bipush 90, 2) := by decide +kernel
theorem dX4_init_72 : decode cX4_init 72 = .ok (.newarray .int, 2) := by decide +kernel
theorem dX4_init_74 : decode cX4_init 74 = .ok (.putfield 34, 3) := by decide +kernel
theorem dX4_init_77 : decode cX4_init 77 = .ok (.aload_n 0, 1) := by decide +kernel
theorem dX4_init_78 : decode cX4_init 78 = .ok (.bipush 27, 2) := by decide +kernel
theorem dX4_init_80 : decode cX4_init 80 = .ok (.newarray .int, 2) := by decide +kernel
theorem dX4_init_82 : decode cX4_init 82 = .ok (.putfield 37, 3) := by decide +kernel
theorem dX4_init_85 : decode cX4_init 85 = .ok (.aload_n 0, 1) := by decide +kernel
theorem dX4_init_86 : decode cX4_init 86 = .ok (.bipush 36, 2) := by decide +kernel
theorem dX4_init_88 : decode cX4_init 88 = .ok (.newarray .int, 2) := by decide +kernel
theorem dX4_init_90 : decode cX4_init 90 = .ok (.putfield 40, 3) := by decide +kernel
theorem dX4_init_93 : decode cX4_init 93 = .ok (.aload_n 0, 1) := by decide +kernel
theorem dX4_init_94 : decode cX4_init 94 = .ok (.sipush 1400, 3) := by decide +kernel
theorem dX4_init_97 : decode cX4_init 97 = .ok (.newarray .int, 2) := by decide +kernel
theorem dX4_init_99 : decode cX4_init 99 = .ok (.putfield 43, 3) := by decide +kernel
theorem dX4_init_102 : decode cX4_init 102 = .ok (.aload_n 0, 1) := by decide +kernel
theorem dX4_init_103 : decode cX4_init 103 = .ok (.sipush 1400, 3) := by decide +kernel
theorem dX4_init_106 : decode cX4_init 106 = .ok (.newarray .int, 2) := by decide +kernel
theorem dX4_init_108 : decode cX4_init 108 = .ok (.putfield 46, 3) := by decide +kernel
theorem dX4_init_111 : decode cX4_init 111 = .ok (.return_, 1) := by decide +kernel
theorem dX4_type_0 : decode cX4_type 0 = .ok (.iload_n 3, 1) := by decide +kernel
theorem dX4_type_1 : decode cX4_type 1 = .ok (.iconst 1, 1) := by decide +kernel
theorem dX4_type_2 : decode cX4_type 2 = .ok (.if_icmp .lt 21, 3) := by decide +kernel
theorem dX4_type_5 : decode cX4_type 5 = .ok (.iload_n 3, 1) := by decide +kernel
theorem dX4_type_6 : decode cX4_type 6 = .ok (.bipush 8, 2) := by decide +kernel
theorem dX4_type_8 : decode cX4_type 8 = .ok (.if_icmp .gt 15, 3) := by decide +kernel
theorem dX4_type_11 : decode cX4_type 11 = .ok (.aload_n 0, 1) := by decide +kernel
theorem dX4_type_12 : decode cX4_type 12 = .ok (.getfield 49, 3) := by decide +kernel
theorem dX4_type_15 : decode cX4_type 15 = .ok (.iload_n 3, 1) := by decide +kernel
theorem dX4_type_16 : decode cX4_type 16 = .ok (.iadd, 1) := by decide +kernel
theorem dX4_type_17 : decode cX4_type 17 = .ok (.sipush 700, 3) := by decide +kernel
theorem dX4_type_20 : decode cX4_type 20 = .ok (.if_icmp .le 5, 3) := by decide +kernel
theorem dX4_type_23 : decode cX4_type 23 = .ok (.iconst (-1), 1) := by decide +kernel
theorem dX4_type_24 : decode cX4_type 24 = .ok (.ireturn, 1) := by decide +kernel
theorem dX4_type_25 : decode cX4_type 25 = .ok (.iconst 0, 1) := by decide +kernel
theorem dX4_type_26 : decode cX4_type 26 = .ok (.istore 4, 2) := by decide +kernel
theorem dX4_type_28 : decode cX4_type 28 = .ok (.iload 4, 2) := by decide +kernel
theorem dX4_type_30 : decode cX4_type 30 = .ok (.iload_n 3, 1) := by decide +kernel
theorem dX4_type_31 : decode cX4_type 31 = .ok (.if_icmp .ge 42, 3) := by decide +kernel
theorem dX4_type_34 : decode cX4_type 34 = .ok (.lload_n 1, 1) := by decide +kernel
theorem dX4_type_35 : decode cX4_type 35 = .ok (.bipush 8, 2) := by decide +kernel
theorem dX4_type_37 : decode cX4_type 37 = .ok (.iload 4, 2) := by decide +kernel
theorem dX4_type_39 : decode cX4_type 39 = .ok (.imul, 1) := by decide +kernel
theorem dX4_type_40 : decode cX4_type 40 = .ok (.lshr, 1) := by decide +kernel
theorem dX4_type_41 : decode cX4_type 41 = .ok (.ldc2_w 53, 3) := by decide +kernel
theorem dX4_type_44 : decode cX4_type 44 = .ok (.land, 1) := by decide +kernel
theorem dX4_type_45 : decode cX4_type 45 = .ok (.lstore 5, 2) := by decide +kernel
theorem dX4_type_47 : decode cX4_type 47 = .ok (.lload 5, 2) := by decide +kernel
theorem dX4_type_49 : decode cX4_type 49 = .ok (.ldc2_w 55, 3) := by decide +kernel
theorem dX4_type_52 : decode cX4_type 52 = .ok (.lcmp, 1) := by decide +kernel
theorem dX4_type_53 : decode cX4_type 53 = .ok (.ifCond .lt 12, 3) := by decide +kernel
theorem dX4_type_56 : decode cX4_type 56 = .ok (.lload 5, 2) := by decide +kernel
theorem dX4_type_58 : decode cX4_type 58 = .ok (.ldc2_w 57, 3) := by decide +kernel
theorem dX4_type_61 : decode cX4_type 61 = .ok (.lcmp, 1) := by decide +kernel
theorem dX4_type_62 : decode cX4_type 62 = .ok (.ifCond .le 5, 3) := by decide +kernel
theorem dX4_type_65 : decode cX4_type 65 = .ok (.iconst (-1), 1) := by decide +kernel
theorem dX4_type_66 : decode cX4_type 66 = .ok (.ireturn, 1) := by decide +kernel
theorem dX4_type_67 : decode cX4_type 67 = .ok (.iinc 4 1, 3) := by decide +kernel
theorem dX4_type_70 : decode cX4_type 70 = .ok (.goto (-42), 3) := by decide +kernel
theorem dX4_type_73 : decode cX4_type 73 = .ok (.iload_n 3, 1) := by decide +kernel
theorem dX4_type_74 : decode cX4_type 74 = .ok (.iconst 1, 1) := by decide +kernel
theorem dX4_type_75 : decode cX4_type 75 = .ok (.isub, 1) := by decide +kernel
theorem dX4_type_76 : decode cX4_type 76 = .ok (.istore 4, 2) := by decide +kernel
theorem dX4_type_78 : decode cX4_type 78 = .ok (.iload 4, 2) := by decide +kernel
theorem dX4_type_80 : decode cX4_type 80 = .ok (.ifCond .lt 40, 3) := by decide +kernel
theorem dX4_type_83 : decode cX4_type 83 = .ok (.aload_n 0, 1) := by decide +kernel
theorem dX4_type_84 : decode cX4_type 84 = .ok (.getfield 7, 3) := by decide +kernel
theorem dX4_type_87 : decode cX4_type 87 = .ok (.aload_n 0, 1) := by decide +kernel
theorem dX4_type_88 : decode cX4_type 88 = .ok (.getfield 49, 3) := by decide +kernel
theorem dX4_type_91 : decode cX4_type 91 = .ok (.lload_n 1, 1) := by decide +kernel
theorem dX4_type_92 : decode cX4_type 92 = .ok (.bipush 8, 2) := by decide +kernel
theorem dX4_type_94 : decode cX4_type 94 = .ok (.iload 4, 2) := by decide +kernel
theorem dX4_type_96 : decode cX4_type 96 = .ok (.imul, 1) := by decide +kernel
theorem dX4_type_97 : decode cX4_type 97 = .ok (.lshr, 1) := by decide +kernel
theorem dX4_type_98 : decode cX4_type 98 = .ok (.ldc2_w 53, 3) := by decide +kernel
theorem dX4_type_101 : decode cX4_type 101 = .ok (.land, 1) := by decide +kernel
theorem dX4_type_102 : decode cX4_type 102 = .ok (.l2i, 1) := by decide +kernel
theorem dX4_type_103 : decode cX4_type 103 = .ok (.iastore, 1) := by decide +kernel
theorem dX4_type_104 : decode cX4_type 104 = .ok (.aload_n 0, 1) := by decide +kernel
theorem dX4_type_105 : decode cX4_type 105 = .ok (.dup, 1) := by decide +kernel
theorem dX4_type_106 : decode cX4_type 106 = .ok (.getfield 49, 3) := by decide +kernel
theorem dX4_type_109 : decode cX4_type 109 = .ok (.iconst 1, 1) := by decide +kernel
theorem dX4_type_110 : decode cX4_type 110 = .ok (.iadd, 1) := by decide +kernel
theorem dX4_type_111 : decode cX4_type 111 = .ok (.putfield 49, 3) := by decide +kernel
theorem dX4_type_114 : decode cX4_type 114 = .ok (.iinc 4 (-1), 3) := by decide +kernel
theorem dX4_type_117 : decode cX4_type 117 = .ok (.goto (-39), 3) := by decide +kernel
theorem dX4_type_120 : decode cX4_type 120 = .ok (.aload_n 0, 1) := by decide +kernel
theorem dX4_type_121 : decode cX4_type 121 = .ok (.getfield 49, 3) := by decide +kernel
theorem dX4_type_124 : decode cX4_type 124 = .ok (.ireturn, 1) := by decide +kernel
theorem dX4_split_0 : decode cX4_split 0 = .ok (.aload_n 0, 1) := by decide +kernel
theorem dX4_split_1 : decode cX4_split 1 = .ok (.iconst 0, 1) := by decide +kernel
theorem dX4_split_2 : decode cX4_split 2 = .ok (.putfield 59, 3) := by decide +kernel
theorem dX4_split_5 : decode cX4_split 5 = .ok (.iconst 0, 1) := by decide +kernel
theorem dX4_split_6 : decode cX4_split 6 = .ok (.istore_n 1, 1) := by decide +kernel
theorem dX4_split_7 : decode cX4_split 7 = .ok (.iload_n 1, 1) := by decide +kernel
theorem dX4_split_8 : decode cX4_split 8 = .ok (.aload_n 0, 1) := by decide +kernel
theorem dX4_split_9 : decode cX4_split 9 = .ok (.getfield 49, 3) := by decide +kernel
theorem dX4_split_12 : decode cX4_split 12 = .ok (.if_icmp .ge 78, 3) := by decide +kernel
theorem dX4_split_15 : decode cX4_split 15 = .ok (.aload_n 0, 1) := by decide +kernel
theorem dX4_split_16 : decode cX4_split 16 = .ok (.getfield 7, 3) := by decide +kernel
theorem dX4_split_19 : decode cX4_split 19 = .ok (.iload_n 1, 1) := by decide +kernel
theorem dX4_split_20 : decode cX4_split 20 = .ok (.iaload, 1) := by decide +kernel
theorem dX4_split_21 : decode cX4_split 21 = .ok (.bipush 32, 2) := by decide +kernel
theorem dX4_split_23 : decode cX4_split 23 = .ok (.if_icmp .ne 9, 3) := by decide +kernel
theorem dX4_split_26 : decode cX4_split 26 = .ok (.iinc 1 1, 3) := by decide +kernel
theorem dX4_split_29 : decode cX4_split 29 = .ok (.goto (-22), 3) := by decide +kernel
theorem dX4_split_32 : decode cX4_split 32 = .ok (.aload_n 0, 1) := by decide +kernel
theorem dX4_split_33 : decode cX4_split 33 = .ok (.getfield 13, 3) := by decide +kernel
theorem dX4_split_36 : decode cX4_split 36 = .ok (.aload_n 0, 1) := by decide +kernel
theorem dX4_split_37 : decode cX4_split 37 = .ok (.getfield 59, 3) := by decide +kernel
theorem dX4_split_40 : decode cX4_split 40 = .ok (.iload_n 1, 1) := by decide +kernel
theorem dX4_split_41 : decode cX4_split 41 = .ok (.iastore, 1) := by decide +kernel
theorem dX4_split_42 : decode cX4_split 42 = .ok (.iload_n 1, 1) := by decide +kernel
theorem dX4_split_43 : decode cX4_split 43 = .ok (.aload_n 0, 1) := by decide +kernel
theorem dX4_split_44 : decode cX4_split 44 = .ok (.getfield 49, 3) := by decide +kernel
theorem dX4_split_47 : decode cX4_split 47 = .ok (.if_icmp .ge 20, 3) := by decide +kernel
theorem dX4_split_50 : decode cX4_split 50 = .ok (.aload_n 0, 1) := by decide +kernel
theorem dX4_split_51 : decode cX4_split 51 = .ok (.getfield 7, 3) := by decide +kernel
theorem dX4_split_54 : decode cX4_split 54 = .ok (.iload_n 1, 1) := by decide +kernel
theorem dX4_split_55 : decode cX4_split 55 = .ok (.iaload, 1) := by decide +kernel
theorem dX4_split_56 : decode cX4_split 56 = .ok (.bipush 32, 2) := by decide +kernel
theorem dX4_split_58 : decode cX4_split 58 = .ok (.if_icmp .eq 9, 3) := by decide +kernel
theorem dX4_split_61 : decode cX4_split 61 = .ok (.iinc 1 1, 3) := by decide +kernel
theorem dX4_split_64 : decode cX4_split 64 = .ok (.goto (-22), 3) := by decide +kernel
theorem dX4_split_67 : decode cX4_split 67 = .ok (.aload_n 0, 1) := by decide +kernel
theorem dX4_split_68 : decode cX4_split 68 = .ok (.getfield 16, 3) := by decide +kernel
theorem dX4_split_71 : decode cX4_split 71 = .ok (.aload_n 0, 1) := by decide +kernel
theorem dX4_split_72 : decode cX4_split 72 = .ok (.getfield 59, 3) := by decide +kernel
theorem dX4_split_75 : decode cX4_split 75 = .ok (.iload_n 1, 1) := by decide +kernel
theorem dX4_split_76 : decode cX4_split 76 = .ok (.iastore, 1) := by decide +kernel
theorem dX4_split_77 : decode cX4_split 77 = .ok (.aload_n 0, 1) := by decide +kernel
theorem dX4_split_78 : decode cX4_split 78 = .ok (.dup, 1) := by decide +kernel
theorem dX4_split_79 : decode cX4_split 79 = .ok (.getfield 59, 3) := by decide +kernel
theorem dX4_split_82 : decode cX4_split 82 = .ok (.iconst 1, 1) := by decide +kernel
theorem dX4_split_83 : decode cX4_split 83 = .ok (.iadd, 1) := by decide +kernel
theorem dX4_split_84 : decode cX4_split 84 = .ok (.putfield 59, 3) := by decide +kernel
theorem dX4_split_87 : decode cX4_split 87 = .ok (.goto (-80), 3) := by decide +kernel
theorem dX4_split_90 : decode cX4_split 90 = .ok (.return_, 1) := by decide +kernel
theorem dX4_size_0 : decode cX4_size 0 = .ok (.aload_n 0, 1) := by decide +kernel
theorem dX4_size_1 : decode cX4_size 1 = .ok (.getfield 62, 3) := by decide +kernel
theorem dX4_size_4 : decode cX4_size 4 = .ok (.aload_n 0, 1) := by decide +kernel
theorem dX4_size_5 : decode cX4_size 5 = .ok (.getfield 59, 3) := by decide +kernel
theorem dX4_size_8 : decode cX4_size 8 = .ok (.if_icmp .ge 25, 3) := by decide +kernel
theorem dX4_size_11 : decode cX4_size 11 = .ok (.aload_n 0, 1) := by decide +kernel
theorem dX4_size_12 : decode cX4_size 12 = .ok (.getfield 16, 3) := by decide +kernel
theorem dX4_size_15 : decode cX4_size 15 = .ok (.aload_n 0, 1) := by decide +kernel
theorem dX4_size_16 : decode cX4_size 16 = .ok (.getfield 62, 3) := by decide +kernel
theorem dX4_size_19 : decode cX4_size 19 = .ok (.iaload, 1) := by decide +kernel
theorem dX4_size_20 : decode cX4_size 20 = .ok (.aload_n 0, 1) := by decide +kernel
theorem dX4_size_21 : decode cX4_size 21 = .ok (.getfield 13, 3) := by decide +kernel
theorem dX4_size_24 : decode cX4_size 24 = .ok (.aload_n 0, 1) := by decide +kernel
theorem dX4_size_25 : decode cX4_size 25 = .ok (.getfield 62, 3) := by decide +kernel
theorem dX4_size_28 : decode cX4_size 28 = .ok (.iaload, 1) := by decide +kernel
theorem dX4_size_29 : decode cX4_size 29 = .ok (.isub, 1) := by decide +kernel
theorem dX4_size_30 : decode cX4_size 30 = .ok (.goto 4, 3) := by decide +kernel
theorem dX4_size_33 : decode cX4_size 33 = .ok (.iconst 0, 1) := by decide +kernel
theorem dX4_size_34 : decode cX4_size 34 = .ok (.ireturn, 1) := by decide +kernel
theorem dX4_sign_0 : decode cX4_sign 0 = .ok (.iload_n 1, 1) := by decide +kernel
theorem dX4_sign_1 : decode cX4_sign 1 = .ok (.aload_n 0, 1) := by decide +kernel
theorem dX4_sign_2 : decode cX4_sign 2 = .ok (.invokevirtual 65, 3) := by decide +kernel
theorem dX4_sign_5 : decode cX4_sign 5 = .ok (.if_icmp .ge 22, 3) := by decide +kernel
theorem dX4_sign_8 : decode cX4_sign 8 = .ok (.aload_n 0, 1) := by decide +kernel
theorem dX4_sign_9 : decode cX4_sign 9 = .ok (.getfield 7, 3) := by decide +kernel
theorem dX4_sign_12 : decode cX4_sign 12 = .ok (.aload_n 0, 1) := by decide +kernel
theorem dX4_sign_13 : decode cX4_sign 13 = .ok (.getfield 13, 3) := by decide +kernel
theorem dX4_sign_16 : decode cX4_sign 16 = .ok (.aload_n 0, 1) := by decide +kernel
theorem dX4_sign_17 : decode cX4_sign 17 = .ok (.getfield 62, 3) := by decide +kernel
theorem dX4_sign_20 : decode cX4_sign 20 = .ok (.iaload, 1) := by decide +kernel
theorem dX4_sign_21 : decode cX4_sign 21 = .ok (.iload_n 1, 1) := by decide +kernel
theorem dX4_sign_22 : decode cX4_sign 22 = .ok (.iadd, 1) := by decide +kernel
theorem dX4_sign_23 : decode cX4_sign 23 = .ok (.iaload, 1) := by decide +kernel
theorem dX4_sign_24 : decode cX4_sign 24 = .ok (.goto 4, 3) := by decide +kernel
theorem dX4_sign_27 : decode cX4_sign 27 = .ok (.iconst 0, 1) := by decide +kernel
theorem dX4_sign_28 : decode cX4_sign 28 = .ok (.ireturn, 1) := by decide +kernel
theorem dX4_word_0 : decode cX4_word 0 = .ok (.lconst 0, 1) := by decide +kernel
theorem dX4_word_1 : decode cX4_word 1 = .ok (.lstore_n 1, 1) := by decide +kernel
theorem dX4_word_2 : decode cX4_word 2 = .ok (.iconst 0, 1) := by decide +kernel
theorem dX4_word_3 : decode cX4_word 3 = .ok (.istore_n 3, 1) := by decide +kernel
theorem dX4_word_4 : decode cX4_word 4 = .ok (.iload_n 3, 1) := by decide +kernel
theorem dX4_word_5 : decode cX4_word 5 = .ok (.aload_n 0, 1) := by decide +kernel
theorem dX4_word_6 : decode cX4_word 6 = .ok (.invokevirtual 65, 3) := by decide +kernel
theorem dX4_word_9 : decode cX4_word 9 = .ok (.if_icmp .ge 30, 3) := by decide +kernel
theorem dX4_word_12 : decode cX4_word 12 = .ok (.aload_n 0, 1) := by decide +kernel
theorem dX4_word_13 : decode cX4_word 13 = .ok (.invokevirtual 65, 3) := by decide +kernel
theorem dX4_word_16 : decode cX4_word 16 = .ok (.bipush 8, 2) := by decide +kernel
theorem dX4_word_18 : decode cX4_word 18 = .ok (.if_icmp .gt 21, 3) := by decide +kernel
theorem dX4_word_21 : decode cX4_word 21 = .ok (.lload_n 1, 1) := by decide +kernel
theorem dX4_word_22 : decode cX4_word 22 = .ok (.bipush 8, 2) := by decide +kernel
theorem dX4_word_24 : decode cX4_word 24 = .ok (.lshl, 1) := by decide +kernel
theorem dX4_word_25 : decode cX4_word 25 = .ok (.aload_n 0, 1) := by decide +kernel
theorem dX4_word_26 : decode cX4_word 26 = .ok (.iload_n 3, 1) := by decide +kernel
theorem dX4_word_27 : decode cX4_word 27 = .ok (.invokevirtual 69, 3) := by decide +kernel
theorem dX4_word_30 : decode cX4_word 30 = .ok (.i2l, 1) := by decide +kernel
theorem dX4_word_31 : decode cX4_word 31 = .ok (.lor, 1) := by decide +kernel
theorem dX4_word_32 : decode cX4_word 32 = .ok (.lstore_n 1, 1) := by decide +kernel
theorem dX4_word_33 : decode cX4_word 33 = .ok (.iinc 3 1, 3) := by decide +kernel
theorem dX4_word_36 : decode cX4_word 36 = .ok (.goto (-32), 3) := by decide +kernel
theorem dX4_word_39 : decode cX4_word 39 = .ok (.lload_n 1, 1) := by decide +kernel
theorem dX4_word_40 : decode cX4_word 40 = .ok (.lreturn, 1) := by decide +kernel
theorem dX4_number_0 : decode cX4_number 0 = .ok (.iconst 0, 1) := by decide +kernel
theorem dX4_number_1 : decode cX4_number 1 = .ok (.istore_n 3, 1) := by decide +kernel
theorem dX4_number_2 : decode cX4_number 2 = .ok (.iload_n 1, 1) := by decide +kernel
theorem dX4_number_3 : decode cX4_number 3 = .ok (.istore 4, 2) := by decide +kernel
theorem dX4_number_5 : decode cX4_number 5 = .ok (.iload 4, 2) := by decide +kernel
theorem dX4_number_7 : decode cX4_number 7 = .ok (.iload_n 1, 1) := by decide +kernel
theorem dX4_number_8 : decode cX4_number 8 = .ok (.iload_n 2, 1) := by decide +kernel
theorem dX4_number_9 : decode cX4_number 9 = .ok (.iadd, 1) := by decide +kernel
theorem dX4_number_10 : decode cX4_number 10 = .ok (.if_icmp .ge 48, 3) := by decide +kernel
theorem dX4_number_13 : decode cX4_number 13 = .ok (.aload_n 0, 1) := by decide +kernel
theorem dX4_number_14 : decode cX4_number 14 = .ok (.iload 4, 2) := by decide +kernel
theorem dX4_number_16 : decode cX4_number 16 = .ok (.invokevirtual 69, 3) := by decide +kernel
theorem dX4_number_19 : decode cX4_number 19 = .ok (.bipush 48, 2) := by decide +kernel
theorem dX4_number_21 : decode cX4_number 21 = .ok (.if_icmp .lt 14, 3) := by decide +kernel
theorem dX4_number_24 : decode cX4_number 24 = .ok (.aload_n 0, 1) := by decide +kernel
theorem dX4_number_25 : decode cX4_number 25 = .ok (.iload 4, 2) := by decide +kernel
theorem dX4_number_27 : decode cX4_number 27 = .ok (.invokevirtual 69, 3) := by decide +kernel
theorem dX4_number_30 : decode cX4_number 30 = .ok (.bipush 57, 2) := by decide +kernel
theorem dX4_number_32 : decode cX4_number 32 = .ok (.if_icmp .le 5, 3) := by decide +kernel
theorem dX4_number_35 : decode cX4_number 35 = .ok (.iconst (-1), 1) := by decide +kernel
theorem dX4_number_36 : decode cX4_number 36 = .ok (.ireturn, 1) := by decide +kernel
theorem dX4_number_37 : decode cX4_number 37 = .ok (.bipush 10, 2) := by decide +kernel
theorem dX4_number_39 : decode cX4_number 39 = .ok (.iload_n 3, 1) := by decide +kernel
theorem dX4_number_40 : decode cX4_number 40 = .ok (.imul, 1) := by decide +kernel
theorem dX4_number_41 : decode cX4_number 41 = .ok (.aload_n 0, 1) := by decide +kernel
theorem dX4_number_42 : decode cX4_number 42 = .ok (.iload 4, 2) := by decide +kernel
theorem dX4_number_44 : decode cX4_number 44 = .ok (.invokevirtual 69, 3) := by decide +kernel
theorem dX4_number_47 : decode cX4_number 47 = .ok (.iadd, 1) := by decide +kernel
theorem dX4_number_48 : decode cX4_number 48 = .ok (.bipush 48, 2) := by decide +kernel
theorem dX4_number_50 : decode cX4_number 50 = .ok (.isub, 1) := by decide +kernel
theorem dX4_number_51 : decode cX4_number 51 = .ok (.istore_n 3, 1) := by decide +kernel
theorem dX4_number_52 : decode cX4_number 52 = .ok (.iinc 4 1, 3) := by decide +kernel
theorem dX4_number_55 : decode cX4_number 55 = .ok (.goto (-50), 3) := by decide +kernel
theorem dX4_number_58 : decode cX4_number 58 = .ok (.iload_n 3, 1) := by decide +kernel
theorem dX4_number_59 : decode cX4_number 59 = .ok (.ireturn, 1) := by decide +kernel
theorem dX4_pair_0 : decode cX4_pair 0 = .ok (.sipush 256, 3) := by decide +kernel
theorem dX4_pair_3 : decode cX4_pair 3 = .ok (.aload_n 0, 1) := by decide +kernel
theorem dX4_pair_4 : decode cX4_pair 4 = .ok (.iload_n 1, 1) := by decide +kernel
theorem dX4_pair_5 : decode cX4_pair 5 = .ok (.invokevirtual 69, 3) := by decide +kernel
theorem dX4_pair_8 : decode cX4_pair 8 = .ok (.imul, 1) := by decide +kernel
theorem dX4_pair_9 : decode cX4_pair 9 = .ok (.aload_n 0, 1) := by decide +kernel
theorem dX4_pair_10 : decode cX4_pair 10 = .ok (.iload_n 1, 1) := by decide +kernel
theorem dX4_pair_11 : decode cX4_pair 11 = .ok (.iconst 1, 1) := by decide +kernel
theorem dX4_pair_12 : decode cX4_pair 12 = .ok (.iadd, 1) := by decide +kernel
theorem dX4_pair_13 : decode cX4_pair 13 = .ok (.invokevirtual 69, 3) := by decide +kernel
theorem dX4_pair_16 : decode cX4_pair 16 = .ok (.iadd, 1) := by decide +kernel
theorem dX4_pair_17 : decode cX4_pair 17 = .ok (.ireturn, 1) := by decide +kernel
theorem dX4_station_0 : decode cX4_station 0 = .ok (.aload_n 0, 1) := by decide +kernel
theorem dX4_station_1 : decode cX4_station 1 = .ok (.invokevirtual 65, 3) := by decide +kernel
theorem dX4_station_4 : decode cX4_station 4 = .ok (.iconst 4, 1) := by decide +kernel
theorem dX4_station_5 : decode cX4_station 5 = .ok (.if_icmp .ne 7, 3) := by decide +kernel
theorem dX4_station_8 : decode cX4_station 8 = .ok (.iconst 1, 1) := by decide +kernel
theorem dX4_station_9 : decode cX4_station 9 = .ok (.goto 4, 3) := by decide +kernel
theorem dX4_station_12 : decode cX4_station 12 = .ok (.iconst 0, 1) := by decide +kernel
theorem dX4_station_13 : decode cX4_station 13 = .ok (.istore_n 1, 1) := by decide +kernel
theorem dX4_station_14 : decode cX4_station 14 = .ok (.iconst 0, 1) := by decide +kernel
theorem dX4_station_15 : decode cX4_station 15 = .ok (.istore_n 2, 1) := by decide +kernel
theorem dX4_station_16 : decode cX4_station 16 = .ok (.iload_n 2, 1) := by decide +kernel
theorem dX4_station_17 : decode cX4_station 17 = .ok (.iconst 4, 1) := by decide +kernel
theorem dX4_station_18 : decode cX4_station 18 = .ok (.if_icmp .ge 50, 3) := by decide +kernel
theorem dX4_station_21 : decode cX4_station 21 = .ok (.iload_n 1, 1) := by decide +kernel
theorem dX4_station_22 : decode cX4_station 22 = .ok (.ifCond .eq 46, 3) := by decide +kernel
theorem dX4_station_25 : decode cX4_station 25 = .ok (.aload_n 0, 1) := by decide +kernel
theorem dX4_station_26 : decode cX4_station 26 = .ok (.iload_n 2, 1) := by decide +kernel
theorem dX4_station_27 : decode cX4_station 27 = .ok (.invokevirtual 69, 3) := by decide +kernel
theorem dX4_station_30 : decode cX4_station 30 = .ok (.bipush 65, 2) := by decide +kernel
theorem dX4_station_32 : decode cX4_station 32 = .ok (.if_icmp .lt 17, 3) := by decide +kernel
theorem dX4_station_35 : decode cX4_station 35 = .ok (.aload_n 0, 1) := by decide +kernel
theorem dX4_station_36 : decode cX4_station 36 = .ok (.iload_n 2, 1) := by decide +kernel
theorem dX4_station_37 : decode cX4_station 37 = .ok (.invokevirtual 69, 3) := by decide +kernel
theorem dX4_station_40 : decode cX4_station 40 = .ok (.bipush 90, 2) := by decide +kernel
theorem dX4_station_42 : decode cX4_station 42 = .ok (.if_icmp .gt 7, 3) := by decide +kernel
theorem dX4_station_45 : decode cX4_station 45 = .ok (.iconst 1, 1) := by decide +kernel
theorem dX4_station_46 : decode cX4_station 46 = .ok (.goto 4, 3) := by decide +kernel
theorem dX4_station_49 : decode cX4_station 49 = .ok (.iconst 0, 1) := by decide +kernel
theorem dX4_station_50 : decode cX4_station 50 = .ok (.istore_n 1, 1) := by decide +kernel
theorem dX4_station_51 : decode cX4_station 51 = .ok (.aload_n 0, 1) := by decide +kernel
theorem dX4_station_52 : decode cX4_station 52 = .ok (.getfield 19, 3) := by decide +kernel
theorem dX4_station_55 : decode cX4_station 55 = .ok (.iload_n 2, 1) := by decide +kernel
theorem dX4_station_56 : decode cX4_station 56 = .ok (.aload_n 0, 1) := by decide +kernel
theorem dX4_station_57 : decode cX4_station 57 = .ok (.iload_n 2, 1) := by decide +kernel
theorem dX4_station_58 : decode cX4_station 58 = .ok (.invokevirtual 69, 3) := by decide +kernel
theorem dX4_station_61 : decode cX4_station 61 = .ok (.iastore, 1) := by decide +kernel
theorem dX4_station_62 : decode cX4_station 62 = .ok (.iinc 2 1, 3) := by decide +kernel
theorem dX4_station_65 : decode cX4_station 65 = .ok (.goto (-49), 3) := by decide +kernel
theorem dX4_station_68 : decode cX4_station 68 = .ok (.aload_n 0, 1) := by decide +kernel
theorem dX4_station_69 : decode cX4_station 69 = .ok (.iload_n 1, 1) := by decide +kernel
theorem dX4_station_70 : decode cX4_station 70 = .ok (.ifCond .eq 12, 3) := by decide +kernel
theorem dX4_station_73 : decode cX4_station 73 = .ok (.aload_n 0, 1) := by decide +kernel
theorem dX4_station_74 : decode cX4_station 74 = .ok (.getfield 62, 3) := by decide +kernel
theorem dX4_station_77 : decode cX4_station 77 = .ok (.iconst 1, 1) := by decide +kernel
theorem dX4_station_78 : decode cX4_station 78 = .ok (.iadd, 1) := by decide +kernel
theorem dX4_station_79 : decode cX4_station 79 = .ok (.goto 7, 3) := by decide +kernel
theorem dX4_station_82 : decode cX4_station 82 = .ok (.aload_n 0, 1) := by decide +kernel
theorem dX4_station_83 : decode cX4_station 83 = .ok (.getfield 62, 3) := by decide +kernel
theorem dX4_station_86 : decode cX4_station 86 = .ok (.putfield 62, 3) := by decide +kernel
theorem dX4_station_89 : decode cX4_station 89 = .ok (.iload_n 1, 1) := by decide +kernel
theorem dX4_station_90 : decode cX4_station 90 = .ok (.ireturn, 1) := by decide +kernel
theorem dX4_isDay_0 : decode cX4_isDay 0 = .ok (.iload_n 1, 1) := by decide +kernel
theorem dX4_isDay_1 : decode cX4_isDay 1 = .ok (.iconst 1, 1) := by decide +kernel
theorem dX4_isDay_2 : decode cX4_isDay 2 = .ok (.if_icmp .lt 15, 3) := by decide +kernel
theorem dX4_isDay_5 : decode cX4_isDay 5 = .ok (.iload_n 1, 1) := by decide +kernel
theorem dX4_isDay_6 : decode cX4_isDay 6 = .ok (.aload_n 0, 1) := by decide +kernel
theorem dX4_isDay_7 : decode cX4_isDay 7 = .ok (.getfield 73, 3) := by decide +kernel
theorem dX4_isDay_10 : decode cX4_isDay 10 = .ok (.if_icmp .gt 7, 3) := by decide +kernel
theorem dX4_isDay_13 : decode cX4_isDay 13 = .ok (.iconst 1, 1) := by decide +kernel
theorem dX4_isDay_14 : decode cX4_isDay 14 = .ok (.goto 4, 3) := by decide +kernel
theorem dX4_isDay_17 : decode cX4_isDay 17 = .ok (.iconst 0, 1) := by decide +kernel
theorem dX4_isDay_18 : decode cX4_isDay 18 = .ok (.ireturn, 1) := by decide +kernel
theorem dX4_isIn_0 : decode cX4_isIn 0 = .ok (.iload_n 1, 1) := by decide +kernel
theorem dX4_isIn_1 : decode cX4_isIn 1 = .ok (.ifCond .lt 12, 3) := by decide +kernel
theorem dX4_isIn_4 : decode cX4_isIn 4 = .ok (.iload_n 1, 1) := by decide +kernel
theorem dX4_isIn_5 : decode cX4_isIn 5 = .ok (.iload_n 2, 1) := by decide +kernel
theorem dX4_isIn_6 : decode cX4_isIn 6 = .ok (.if_icmp .gt 7, 3) := by decide +kernel
theorem dX4_isIn_9 : decode cX4_isIn 9 = .ok (.iconst 1, 1) := by decide +kernel
theorem dX4_isIn_10 : decode cX4_isIn 10 = .ok (.goto 4, 3) := by decide +kernel
theorem dX4_isIn_13 : decode cX4_isIn 13 = .ok (.iconst 0, 1) := by decide +kernel
theorem dX4_isIn_14 : decode cX4_isIn 14 = .ok (.ireturn, 1) := by decide +kernel
theorem dX4_issued_0 : decode cX4_issued 0 = .ok (.aload_n 0, 1) := by decide +kernel
theorem dX4_issued_1 : decode cX4_issued 1 = .ok (.aload_n 0, 1) := by decide +kernel
theorem dX4_issued_2 : decode cX4_issued 2 = .ok (.iconst 0, 1) := by decide +kernel
theorem dX4_issued_3 : decode cX4_issued 3 = .ok (.iconst 2, 1) := by decide +kernel
theorem dX4_issued_4 : decode cX4_issued 4 = .ok (.invokevirtual 76, 3) := by decide +kernel
theorem dX4_issued_7 : decode cX4_issued 7 = .ok (.putfield 80, 3) := by decide +kernel
theorem dX4_issued_10 : decode cX4_issued 10 = .ok (.aload_n 0, 1) := by decide +kernel
theorem dX4_issued_11 : decode cX4_issued 11 = .ok (.invokevirtual 65, 3) := by decide +kernel
theorem dX4_issued_14 : decode cX4_issued 14 = .ok (.bipush 7, 2) := by decide +kernel
theorem dX4_issued_16 : decode cX4_issued 16 = .ok (.if_icmp .ne 59, 3) := by decide +kernel
theorem dX4_issued_19 : decode cX4_issued 19 = .ok (.aload_n 0, 1) := by decide +kernel
theorem dX4_issued_20 : decode cX4_issued 20 = .ok (.bipush 6, 2) := by decide +kernel
theorem dX4_issued_22 : decode cX4_issued 22 = .ok (.invokevirtual 69, 3) := by decide +kernel
theorem dX4_issued_25 : decode cX4_issued 25 = .ok (.bipush 90, 2) := by decide +kernel
theorem dX4_issued_27 : decode cX4_issued 27 = .ok (.if_icmp .ne 48, 3) := by decide +kernel
theorem dX4_issued_30 : decode cX4_issued 30 = .ok (.aload_n 0, 1) := by decide +kernel
theorem dX4_issued_31 : decode cX4_issued 31 = .ok (.aload_n 0, 1) := by decide +kernel
theorem dX4_issued_32 : decode cX4_issued 32 = .ok (.getfield 80, 3) := by decide +kernel
theorem dX4_issued_35 : decode cX4_issued 35 = .ok (.invokevirtual 83, 3) := by decide +kernel
theorem dX4_issued_38 : decode cX4_issued 38 = .ok (.ifCond .eq 37, 3) := by decide +kernel
theorem dX4_issued_41 : decode cX4_issued 41 = .ok (.aload_n 0, 1) := by decide +kernel
theorem dX4_issued_42 : decode cX4_issued 42 = .ok (.aload_n 0, 1) := by decide +kernel
theorem dX4_issued_43 : decode cX4_issued 43 = .ok (.iconst 2, 1) := by decide +kernel
theorem dX4_issued_44 : decode cX4_issued 44 = .ok (.iconst 2, 1) := by decide +kernel
theorem dX4_issued_45 : decode cX4_issued 45 = .ok (.invokevirtual 76, 3) := by decide +kernel
theorem dX4_issued_48 : decode cX4_issued 48 = .ok (.bipush 23, 2) := by decide +kernel
theorem dX4_issued_50 : decode cX4_issued 50 = .ok (.invokevirtual 87, 3) := by decide +kernel
theorem dX4_issued_53 : decode cX4_issued 53 = .ok (.ifCond .eq 22, 3) := by decide +kernel
theorem dX4_issued_56 : decode cX4_issued 56 = .ok (.aload_n 0, 1) := by decide +kernel
theorem dX4_issued_57 : decode cX4_issued 57 = .ok (.aload_n 0, 1) := by decide +kernel
theorem dX4_issued_58 : decode cX4_issued 58 = .ok (.iconst 4, 1) := by decide +kernel
theorem dX4_issued_59 : decode cX4_issued 59 = .ok (.iconst 2, 1) := by decide +kernel
theorem dX4_issued_60 : decode cX4_issued 60 = .ok (.invokevirtual 76, 3) := by decide +kernel
theorem dX4_issued_63 : decode cX4_issued 63 = .ok (.bipush 59, 2) := by decide +kernel
theorem dX4_issued_65 : decode cX4_issued 65 = .ok (.invokevirtual 87, 3) := by decide +kernel
theorem dX4_issued_68 : decode cX4_issued 68 = .ok (.ifCond .eq 7, 3) := by decide +kernel
theorem dX4_issued_71 : decode cX4_issued 71 = .ok (.iconst 1, 1) := by decide +kernel
theorem dX4_issued_72 : decode cX4_issued 72 = .ok (.goto 4, 3) := by decide +kernel
theorem dX4_issued_75 : decode cX4_issued 75 = .ok (.iconst 0, 1) := by decide +kernel
theorem dX4_issued_76 : decode cX4_issued 76 = .ok (.istore_n 1, 1) := by decide +kernel
theorem dX4_issued_77 : decode cX4_issued 77 = .ok (.aload_n 0, 1) := by decide +kernel
theorem dX4_issued_78 : decode cX4_issued 78 = .ok (.sipush 1440, 3) := by decide +kernel
theorem dX4_issued_81 : decode cX4_issued 81 = .ok (.aload_n 0, 1) := by decide +kernel
theorem dX4_issued_82 : decode cX4_issued 82 = .ok (.getfield 80, 3) := by decide +kernel
theorem dX4_issued_85 : decode cX4_issued 85 = .ok (.iconst 1, 1) := by decide +kernel
theorem dX4_issued_86 : decode cX4_issued 86 = .ok (.isub, 1) := by decide +kernel
theorem dX4_issued_87 : decode cX4_issued 87 = .ok (.imul, 1) := by decide +kernel
theorem dX4_issued_88 : decode cX4_issued 88 = .ok (.bipush 60, 2) := by decide +kernel
theorem dX4_issued_90 : decode cX4_issued 90 = .ok (.aload_n 0, 1) := by decide +kernel
theorem dX4_issued_91 : decode cX4_issued 91 = .ok (.iconst 2, 1) := by decide +kernel
theorem dX4_issued_92 : decode cX4_issued 92 = .ok (.iconst 2, 1) := by decide +kernel
theorem dX4_issued_93 : decode cX4_issued 93 = .ok (.invokevirtual 76, 3) := by decide +kernel
theorem dX4_issued_96 : decode cX4_issued 96 = .ok (.imul, 1) := by decide +kernel
theorem dX4_issued_97 : decode cX4_issued 97 = .ok (.iadd, 1) := by decide +kernel
theorem dX4_issued_98 : decode cX4_issued 98 = .ok (.aload_n 0, 1) := by decide +kernel
theorem dX4_issued_99 : decode cX4_issued 99 = .ok (.iconst 4, 1) := by decide +kernel
theorem dX4_issued_100 : decode cX4_issued 100 = .ok (.iconst 2, 1) := by decide +kernel
theorem dX4_issued_101 : decode cX4_issued 101 = .ok (.invokevirtual 76, 3) := by decide +kernel
theorem dX4_issued_104 : decode cX4_issued 104 = .ok (.iadd, 1) := by decide +kernel
theorem dX4_issued_105 : decode cX4_issued 105 = .ok (.putfield 91, 3) := by decide +kernel
theorem dX4_issued_108 : decode cX4_issued 108 = .ok (.aload_n 0, 1) := by decide +kernel
theorem dX4_issued_109 : decode cX4_issued 109 = .ok (.iload_n 1, 1) := by decide +kernel
theorem dX4_issued_110 : decode cX4_issued 110 = .ok (.ifCond .eq 12, 3) := by decide +kernel
theorem dX4_issued_113 : decode cX4_issued 113 = .ok (.aload_n 0, 1) := by decide +kernel
theorem dX4_issued_114 : decode cX4_issued 114 = .ok (.getfield 62, 3) := by decide +kernel
theorem dX4_issued_117 : decode cX4_issued 117 = .ok (.iconst 1, 1) := by decide +kernel
theorem dX4_issued_118 : decode cX4_issued 118 = .ok (.iadd, 1) := by decide +kernel
theorem dX4_issued_119 : decode cX4_issued 119 = .ok (.goto 7, 3) := by decide +kernel
theorem dX4_issued_122 : decode cX4_issued 122 = .ok (.aload_n 0, 1) := by decide +kernel
theorem dX4_issued_123 : decode cX4_issued 123 = .ok (.getfield 62, 3) := by decide +kernel
theorem dX4_issued_126 : decode cX4_issued 126 = .ok (.putfield 62, 3) := by decide +kernel
theorem dX4_issued_129 : decode cX4_issued 129 = .ok (.iload_n 1, 1) := by decide +kernel
theorem dX4_issued_130 : decode cX4_issued 130 = .ok (.ireturn, 1) := by decide +kernel
theorem dX4_ends_0 : decode cX4_ends 0 = .ok (.aload_n 0, 1) := by decide +kernel
theorem dX4_ends_1 : decode cX4_ends 1 = .ok (.iconst 0, 1) := by decide +kernel
theorem dX4_ends_2 : decode cX4_ends 2 = .ok (.invokevirtual 69, 3) := by decide +kernel
theorem dX4_ends_5 : decode cX4_ends 5 = .ok (.bipush 77, 2) := by decide +kernel
theorem dX4_ends_7 : decode cX4_ends 7 = .ok (.if_icmp .ne 7, 3) := by decide +kernel
theorem dX4_ends_10 : decode cX4_ends 10 = .ok (.iconst 1, 1) := by decide +kernel
theorem dX4_ends_11 : decode cX4_ends 11 = .ok (.goto 4, 3) := by decide +kernel
theorem dX4_ends_14 : decode cX4_ends 14 = .ok (.iconst 0, 1) := by decide +kernel
theorem dX4_ends_15 : decode cX4_ends 15 = .ok (.istore_n 1, 1) := by decide +kernel
theorem dX4_ends_16 : decode cX4_ends 16 = .ok (.iload_n 1, 1) := by decide +kernel
theorem dX4_ends_17 : decode cX4_ends 17 = .ok (.iconst 2, 1) := by decide +kernel
theorem dX4_ends_18 : decode cX4_ends 18 = .ok (.iadd, 1) := by decide +kernel
theorem dX4_ends_19 : decode cX4_ends 19 = .ok (.istore_n 2, 1) := by decide +kernel
theorem dX4_ends_20 : decode cX4_ends 20 = .ok (.aload_n 0, 1) := by decide +kernel
theorem dX4_ends_21 : decode cX4_ends 21 = .ok (.iload_n 2, 1) := by decide +kernel
theorem dX4_ends_22 : decode cX4_ends 22 = .ok (.iconst 1, 1) := by decide +kernel
theorem dX4_ends_23 : decode cX4_ends 23 = .ok (.iadd, 1) := by decide +kernel
theorem dX4_ends_24 : decode cX4_ends 24 = .ok (.invokevirtual 69, 3) := by decide +kernel
theorem dX4_ends_27 : decode cX4_ends 27 = .ok (.bipush 77, 2) := by decide +kernel
theorem dX4_ends_29 : decode cX4_ends 29 = .ok (.if_icmp .ne 7, 3) := by decide +kernel
theorem dX4_ends_32 : decode cX4_ends 32 = .ok (.iconst 1, 1) := by decide +kernel
theorem dX4_ends_33 : decode cX4_ends 33 = .ok (.goto 4, 3) := by decide +kernel
theorem dX4_ends_36 : decode cX4_ends 36 = .ok (.iconst 0, 1) := by decide +kernel
theorem dX4_ends_37 : decode cX4_ends 37 = .ok (.istore_n 3, 1) := by decide +kernel
theorem dX4_ends_38 : decode cX4_ends 38 = .ok (.aload_n 0, 1) := by decide +kernel
theorem dX4_ends_39 : decode cX4_ends 39 = .ok (.aload_n 0, 1) := by decide +kernel
theorem dX4_ends_40 : decode cX4_ends 40 = .ok (.iload_n 1, 1) := by decide +kernel
theorem dX4_ends_41 : decode cX4_ends 41 = .ok (.iconst 2, 1) := by decide +kernel
theorem dX4_ends_42 : decode cX4_ends 42 = .ok (.invokevirtual 76, 3) := by decide +kernel
theorem dX4_ends_45 : decode cX4_ends 45 = .ok (.putfield 94, 3) := by decide +kernel
theorem dX4_ends_48 : decode cX4_ends 48 = .ok (.aload_n 0, 1) := by decide +kernel
theorem dX4_ends_49 : decode cX4_ends 49 = .ok (.aload_n 0, 1) := by decide +kernel
theorem dX4_ends_50 : decode cX4_ends 50 = .ok (.iload_n 2, 1) := by decide +kernel
theorem dX4_ends_51 : decode cX4_ends 51 = .ok (.iconst 1, 1) := by decide +kernel
theorem dX4_ends_52 : decode cX4_ends 52 = .ok (.iadd, 1) := by decide +kernel
theorem dX4_ends_53 : decode cX4_ends 53 = .ok (.iload_n 3, 1) := by decide +kernel
theorem dX4_ends_54 : decode cX4_ends 54 = .ok (.iadd, 1) := by decide +kernel
theorem dX4_ends_55 : decode cX4_ends 55 = .ok (.iconst 2, 1) := by decide +kernel
theorem dX4_ends_56 : decode cX4_ends 56 = .ok (.invokevirtual 76, 3) := by decide +kernel
theorem dX4_ends_59 : decode cX4_ends 59 = .ok (.putfield 97, 3) := by decide +kernel
theorem dX4_ends_62 : decode cX4_ends 62 = .ok (.aload_n 0, 1) := by decide +kernel
theorem dX4_ends_63 : decode cX4_ends 63 = .ok (.getfield 94, 3) := by decide +kernel
theorem dX4_ends_66 : decode cX4_ends 66 = .ok (.ifCond .lt 36, 3) := by decide +kernel
theorem dX4_ends_69 : decode cX4_ends 69 = .ok (.aload_n 0, 1) := by decide +kernel
theorem dX4_ends_70 : decode cX4_ends 70 = .ok (.getfield 97, 3) := by decide +kernel
theorem dX4_ends_73 : decode cX4_ends 73 = .ok (.ifCond .lt 29, 3) := by decide +kernel
theorem dX4_ends_76 : decode cX4_ends 76 = .ok (.aload_n 0, 1) := by decide +kernel
theorem dX4_ends_77 : decode cX4_ends 77 = .ok (.iload_n 2, 1) := by decide +kernel
theorem dX4_ends_78 : decode cX4_ends 78 = .ok (.invokevirtual 69, 3) := by decide +kernel
theorem dX4_ends_81 : decode cX4_ends 81 = .ok (.bipush 47, 2) := by decide +kernel
theorem dX4_ends_83 : decode cX4_ends 83 = .ok (.if_icmp .ne 19, 3) := by decide +kernel
theorem dX4_ends_86 : decode cX4_ends 86 = .ok (.aload_n 0, 1) := by decide +kernel
theorem dX4_ends_87 : decode cX4_ends 87 = .ok (.invokevirtual 65, 3) := by decide +kernel
theorem dX4_ends_90 : decode cX4_ends 90 = .ok (.iload_n 2, 1) := by decide +kernel
theorem dX4_ends_91 : decode cX4_ends 91 = .ok (.iconst 3, 1) := by decide +kernel
theorem dX4_ends_92 : decode cX4_ends 92 = .ok (.iadd, 1) := by decide +kernel
theorem dX4_ends_93 : decode cX4_ends 93 = .ok (.iload_n 3, 1) := by decide +kernel
theorem dX4_ends_94 : decode cX4_ends 94 = .ok (.iadd, 1) := by decide +kernel
theorem dX4_ends_95 : decode cX4_ends 95 = .ok (.if_icmp .ne 7, 3) := by decide +kernel
theorem dX4_ends_98 : decode cX4_ends 98 = .ok (.iconst 1, 1) := by decide +kernel
theorem dX4_ends_99 : decode cX4_ends 99 = .ok (.goto 4, 3) := by decide +kernel
theorem dX4_ends_102 : decode cX4_ends 102 = .ok (.iconst 0, 1) := by decide +kernel
theorem dX4_ends_103 : decode cX4_ends 103 = .ok (.istore 4, 2) := by decide +kernel
theorem dX4_ends_105 : decode cX4_ends 105 = .ok (.aload_n 0, 1) := by decide +kernel
theorem dX4_ends_106 : decode cX4_ends 106 = .ok (.iload_n 1, 1) := by decide +kernel
theorem dX4_ends_107 : decode cX4_ends 107 = .ok (.iconst 1, 1) := by decide +kernel
theorem dX4_ends_108 : decode cX4_ends 108 = .ok (.if_icmp .ne 11, 3) := by decide +kernel
theorem dX4_ends_111 : decode cX4_ends 111 = .ok (.aload_n 0, 1) := by decide +kernel
theorem dX4_ends_112 : decode cX4_ends 112 = .ok (.getfield 94, 3) := by decide +kernel
theorem dX4_ends_115 : decode cX4_ends 115 = .ok (.ineg, 1) := by decide +kernel
theorem dX4_ends_116 : decode cX4_ends 116 = .ok (.goto 7, 3) := by decide +kernel
theorem dX4_ends_119 : decode cX4_ends 119 = .ok (.aload_n 0, 1) := by decide +kernel
theorem dX4_ends_120 : decode cX4_ends 120 = .ok (.getfield 94, 3) := by decide +kernel
theorem dX4_ends_123 : decode cX4_ends 123 = .ok (.putfield 94, 3) := by decide +kernel
theorem dX4_ends_126 : decode cX4_ends 126 = .ok (.aload_n 0, 1) := by decide +kernel
theorem dX4_ends_127 : decode cX4_ends 127 = .ok (.iload_n 3, 1) := by decide +kernel
theorem dX4_ends_128 : decode cX4_ends 128 = .ok (.iconst 1, 1) := by decide +kernel
theorem dX4_ends_129 : decode cX4_ends 129 = .ok (.if_icmp .ne 11, 3) := by decide +kernel
theorem dX4_ends_132 : decode cX4_ends 132 = .ok (.aload_n 0, 1) := by decide +kernel
theorem dX4_ends_133 : decode cX4_ends 133 = .ok (.getfield 97, 3) := by decide +kernel
theorem dX4_ends_136 : decode cX4_ends 136 = .ok (.ineg, 1) := by decide +kernel
theorem dX4_ends_137 : decode cX4_ends 137 = .ok (.goto 7, 3) := by decide +kernel
theorem dX4_ends_140 : decode cX4_ends 140 = .ok (.aload_n 0, 1) := by decide +kernel
theorem dX4_ends_141 : decode cX4_ends 141 = .ok (.getfield 97, 3) := by decide +kernel
theorem dX4_ends_144 : decode cX4_ends 144 = .ok (.putfield 97, 3) := by decide +kernel
theorem dX4_ends_147 : decode cX4_ends 147 = .ok (.aload_n 0, 1) := by decide +kernel
theorem dX4_ends_148 : decode cX4_ends 148 = .ok (.iload 4, 2) := by decide +kernel
theorem dX4_ends_150 : decode cX4_ends 150 = .ok (.ifCond .eq 12, 3) := by decide +kernel
theorem dX4_ends_153 : decode cX4_ends 153 = .ok (.aload_n 0, 1) := by decide +kernel
theorem dX4_ends_154 : decode cX4_ends 154 = .ok (.getfield 62, 3) := by decide +kernel
theorem dX4_ends_157 : decode cX4_ends 157 = .ok (.iconst 1, 1) := by decide +kernel
theorem dX4_ends_158 : decode cX4_ends 158 = .ok (.iadd, 1) := by decide +kernel
theorem dX4_ends_159 : decode cX4_ends 159 = .ok (.goto 7, 3) := by decide +kernel
theorem dX4_ends_162 : decode cX4_ends 162 = .ok (.aload_n 0, 1) := by decide +kernel
theorem dX4_ends_163 : decode cX4_ends 163 = .ok (.getfield 62, 3) := by decide +kernel
theorem dX4_ends_166 : decode cX4_ends 166 = .ok (.putfield 62, 3) := by decide +kernel
theorem dX4_ends_169 : decode cX4_ends 169 = .ok (.iload 4, 2) := by decide +kernel
theorem dX4_ends_171 : decode cX4_ends 171 = .ok (.ifCond .ne 5, 3) := by decide +kernel
theorem dX4_ends_174 : decode cX4_ends 174 = .ok (.iconst 0, 1) := by decide +kernel
theorem dX4_ends_175 : decode cX4_ends 175 = .ok (.ireturn, 1) := by decide +kernel
theorem dX4_ends_176 : decode cX4_ends 176 = .ok (.aload_n 0, 1) := by decide +kernel
theorem dX4_ends_177 : decode cX4_ends 177 = .ok (.aload_n 0, 1) := by decide +kernel
theorem dX4_ends_178 : decode cX4_ends 178 = .ok (.iconst 1, 1) := by decide +kernel
theorem dX4_ends_179 : decode cX4_ends 179 = .ok (.iconst 4, 1) := by decide +kernel
theorem dX4_ends_180 : decode cX4_ends 180 = .ok (.invokevirtual 76, 3) := by decide +kernel
theorem dX4_ends_183 : decode cX4_ends 183 = .ok (.putfield 100, 3) := by decide +kernel
theorem dX4_ends_186 : decode cX4_ends 186 = .ok (.aload_n 0, 1) := by decide +kernel
theorem dX4_ends_187 : decode cX4_ends 187 = .ok (.iconst 0, 1) := by decide +kernel
theorem dX4_ends_188 : decode cX4_ends 188 = .ok (.invokevirtual 69, 3) := by decide +kernel
theorem dX4_ends_191 : decode cX4_ends 191 = .ok (.bipush 81, 2) := by decide +kernel
theorem dX4_ends_193 : decode cX4_ends 193 = .ok (.if_icmp .ne 22, 3) := by decide +kernel
theorem dX4_ends_196 : decode cX4_ends 196 = .ok (.aload_n 0, 1) := by decide +kernel
theorem dX4_ends_197 : decode cX4_ends 197 = .ok (.invokevirtual 65, 3) := by decide +kernel
theorem dX4_ends_200 : decode cX4_ends 200 = .ok (.iconst 5, 1) := by decide +kernel
theorem dX4_ends_201 : decode cX4_ends 201 = .ok (.if_icmp .ne 14, 3) := by decide +kernel
theorem dX4_ends_204 : decode cX4_ends 204 = .ok (.aload_n 0, 1) := by decide +kernel
theorem dX4_ends_205 : decode cX4_ends 205 = .ok (.getfield 100, 3) := by decide +kernel
theorem dX4_ends_208 : decode cX4_ends 208 = .ok (.ifCond .lt 7, 3) := by decide +kernel
theorem dX4_ends_211 : decode cX4_ends 211 = .ok (.iconst 1, 1) := by decide +kernel
theorem dX4_ends_212 : decode cX4_ends 212 = .ok (.goto 4, 3) := by decide +kernel
theorem dX4_ends_215 : decode cX4_ends 215 = .ok (.iconst 0, 1) := by decide +kernel
theorem dX4_ends_216 : decode cX4_ends 216 = .ok (.istore 5, 2) := by decide +kernel
theorem dX4_ends_218 : decode cX4_ends 218 = .ok (.aload_n 0, 1) := by decide +kernel
theorem dX4_ends_219 : decode cX4_ends 219 = .ok (.iload 5, 2) := by decide +kernel
theorem dX4_ends_221 : decode cX4_ends 221 = .ok (.ifCond .eq 12, 3) := by decide +kernel
theorem dX4_ends_224 : decode cX4_ends 224 = .ok (.aload_n 0, 1) := by decide +kernel
theorem dX4_ends_225 : decode cX4_ends 225 = .ok (.getfield 62, 3) := by decide +kernel
theorem dX4_ends_228 : decode cX4_ends 228 = .ok (.iconst 1, 1) := by decide +kernel
theorem dX4_ends_229 : decode cX4_ends 229 = .ok (.iadd, 1) := by decide +kernel
theorem dX4_ends_230 : decode cX4_ends 230 = .ok (.goto 7, 3) := by decide +kernel
theorem dX4_ends_233 : decode cX4_ends 233 = .ok (.aload_n 0, 1) := by decide +kernel
theorem dX4_ends_234 : decode cX4_ends 234 = .ok (.getfield 62, 3) := by decide +kernel
theorem dX4_ends_237 : decode cX4_ends 237 = .ok (.putfield 62, 3) := by decide +kernel
theorem dX4_ends_240 : decode cX4_ends 240 = .ok (.iload 5, 2) := by decide +kernel
theorem dX4_ends_242 : decode cX4_ends 242 = .ok (.ifCond .eq 18, 3) := by decide +kernel
theorem dX4_ends_245 : decode cX4_ends 245 = .ok (.aload_n 0, 1) := by decide +kernel
theorem dX4_ends_246 : decode cX4_ends 246 = .ok (.getfield 62, 3) := by decide +kernel
theorem dX4_ends_249 : decode cX4_ends 249 = .ok (.aload_n 0, 1) := by decide +kernel
theorem dX4_ends_250 : decode cX4_ends 250 = .ok (.getfield 59, 3) := by decide +kernel
theorem dX4_ends_253 : decode cX4_ends 253 = .ok (.if_icmp .ne 7, 3) := by decide +kernel
theorem dX4_ends_256 : decode cX4_ends 256 = .ok (.iconst 1, 1) := by decide +kernel
theorem dX4_ends_257 : decode cX4_ends 257 = .ok (.goto 4, 3) := by decide +kernel
theorem dX4_ends_260 : decode cX4_ends 260 = .ok (.iconst 0, 1) := by decide +kernel
theorem dX4_ends_261 : decode cX4_ends 261 = .ok (.ireturn, 1) := by decide +kernel
theorem dX4_wind_0 : decode cX4_wind 0 = .ok (.aload_n 0, 1) := by decide +kernel
theorem dX4_wind_1 : decode cX4_wind 1 = .ok (.invokevirtual 65, 3) := by decide +kernel
theorem dX4_wind_4 : decode cX4_wind 4 = .ok (.istore_n 2, 1) := by decide +kernel
theorem dX4_wind_5 : decode cX4_wind 5 = .ok (.aload_n 0, 1) := by decide +kernel
theorem dX4_wind_6 : decode cX4_wind 6 = .ok (.iconst 0, 1) := by decide +kernel
theorem dX4_wind_7 : decode cX4_wind 7 = .ok (.invokevirtual 69, 3) := by decide +kernel
theorem dX4_wind_10 : decode cX4_wind 10 = .ok (.bipush 86, 2) := by decide +kernel
theorem dX4_wind_12 : decode cX4_wind 12 = .ok (.if_icmp .ne 27, 3) := by decide +kernel
theorem dX4_wind_15 : decode cX4_wind 15 = .ok (.aload_n 0, 1) := by decide +kernel
theorem dX4_wind_16 : decode cX4_wind 16 = .ok (.iconst 1, 1) := by decide +kernel
theorem dX4_wind_17 : decode cX4_wind 17 = .ok (.invokevirtual 69, 3) := by decide +kernel
theorem dX4_wind_20 : decode cX4_wind 20 = .ok (.bipush 82, 2) := by decide +kernel
theorem dX4_wind_22 : decode cX4_wind 22 = .ok (.if_icmp .ne 17, 3) := by decide +kernel
theorem dX4_wind_25 : decode cX4_wind 25 = .ok (.aload_n 0, 1) := by decide +kernel
theorem dX4_wind_26 : decode cX4_wind 26 = .ok (.iconst 2, 1) := by decide +kernel
theorem dX4_wind_27 : decode cX4_wind 27 = .ok (.invokevirtual 69, 3) := by decide +kernel
theorem dX4_wind_30 : decode cX4_wind 30 = .ok (.bipush 66, 2) := by decide +kernel
theorem dX4_wind_32 : decode cX4_wind 32 = .ok (.if_icmp .ne 7, 3) := by decide +kernel
theorem dX4_wind_35 : decode cX4_wind 35 = .ok (.iconst 1, 1) := by decide +kernel
theorem dX4_wind_36 : decode cX4_wind 36 = .ok (.goto 4, 3) := by decide +kernel
theorem dX4_wind_39 : decode cX4_wind 39 = .ok (.iconst 0, 1) := by decide +kernel
theorem dX4_wind_40 : decode cX4_wind 40 = .ok (.istore_n 3, 1) := by decide +kernel
theorem dX4_wind_41 : decode cX4_wind 41 = .ok (.iload_n 3, 1) := by decide +kernel
theorem dX4_wind_42 : decode cX4_wind 42 = .ok (.ifCond .eq 8, 3) := by decide +kernel
theorem dX4_wind_45 : decode cX4_wind 45 = .ok (.bipush (-2), 2) := by decide +kernel
theorem dX4_wind_47 : decode cX4_wind 47 = .ok (.goto 9, 3) := by decide +kernel
theorem dX4_wind_50 : decode cX4_wind 50 = .ok (.aload_n 0, 1) := by decide +kernel
theorem dX4_wind_51 : decode cX4_wind 51 = .ok (.iconst 0, 1) := by decide +kernel
theorem dX4_wind_52 : decode cX4_wind 52 = .ok (.iconst 3, 1) := by decide +kernel
theorem dX4_wind_53 : decode cX4_wind 53 = .ok (.invokevirtual 76, 3) := by decide +kernel
theorem dX4_wind_56 : decode cX4_wind 56 = .ok (.istore 4, 2) := by decide +kernel
theorem dX4_wind_58 : decode cX4_wind 58 = .ok (.aload_n 0, 1) := by decide +kernel
theorem dX4_wind_59 : decode cX4_wind 59 = .ok (.iconst 3, 1) := by decide +kernel
theorem dX4_wind_60 : decode cX4_wind 60 = .ok (.iconst 2, 1) := by decide +kernel
theorem dX4_wind_61 : decode cX4_wind 61 = .ok (.invokevirtual 76, 3) := by decide +kernel
theorem dX4_wind_64 : decode cX4_wind 64 = .ok (.istore 5, 2) := by decide +kernel
theorem dX4_wind_66 : decode cX4_wind 66 = .ok (.iload_n 2, 1) := by decide +kernel
theorem dX4_wind_67 : decode cX4_wind 67 = .ok (.bipush 10, 2) := by decide +kernel
theorem dX4_wind_69 : decode cX4_wind 69 = .ok (.if_icmp .ne 13, 3) := by decide +kernel
theorem dX4_wind_72 : decode cX4_wind 72 = .ok (.aload_n 0, 1) := by decide +kernel
theorem dX4_wind_73 : decode cX4_wind 73 = .ok (.bipush 6, 2) := by decide +kernel
theorem dX4_wind_75 : decode cX4_wind 75 = .ok (.iconst 2, 1) := by decide +kernel
theorem dX4_wind_76 : decode cX4_wind 76 = .ok (.invokevirtual 76, 3) := by decide +kernel
theorem dX4_wind_79 : decode cX4_wind 79 = .ok (.goto 4, 3) := by decide +kernel
theorem dX4_wind_82 : decode cX4_wind 82 = .ok (.iconst 0, 1) := by decide +kernel
theorem dX4_wind_83 : decode cX4_wind 83 = .ok (.istore 6, 2) := by decide +kernel
theorem dX4_wind_85 : decode cX4_wind 85 = .ok (.iload_n 2, 1) := by decide +kernel
theorem dX4_wind_86 : decode cX4_wind 86 = .ok (.bipush 7, 2) := by decide +kernel
theorem dX4_wind_88 : decode cX4_wind 88 = .ok (.if_icmp .eq 26, 3) := by decide +kernel
theorem dX4_wind_91 : decode cX4_wind 91 = .ok (.iload_n 2, 1) := by decide +kernel
theorem dX4_wind_92 : decode cX4_wind 92 = .ok (.bipush 10, 2) := by decide +kernel
theorem dX4_wind_94 : decode cX4_wind 94 = .ok (.if_icmp .ne 78, 3) := by decide +kernel
theorem dX4_wind_97 : decode cX4_wind 97 = .ok (.aload_n 0, 1) := by decide +kernel
theorem dX4_wind_98 : decode cX4_wind 98 = .ok (.iconst 5, 1) := by decide +kernel
theorem dX4_wind_99 : decode cX4_wind 99 = .ok (.invokevirtual 69, 3) := by decide +kernel
theorem dX4_wind_102 : decode cX4_wind 102 = .ok (.bipush 71, 2) := by decide +kernel
theorem dX4_wind_104 : decode cX4_wind 104 = .ok (.if_icmp .ne 68, 3) := by decide +kernel
theorem dX4_wind_107 : decode cX4_wind 107 = .ok (.iload 6, 2) := by decide +kernel
theorem dX4_wind_109 : decode cX4_wind 109 = .ok (.iload 5, 2) := by decide +kernel
theorem dX4_wind_111 : decode cX4_wind 111 = .ok (.if_icmp .le 61, 3) := by decide +kernel
theorem dX4_wind_114 : decode cX4_wind 114 = .ok (.aload_n 0, 1) := by decide +kernel
theorem dX4_wind_115 : decode cX4_wind 115 = .ok (.iload_n 2, 1) := by decide +kernel
theorem dX4_wind_116 : decode cX4_wind 116 = .ok (.iconst 2, 1) := by decide +kernel
theorem dX4_wind_117 : decode cX4_wind 117 = .ok (.isub, 1) := by decide +kernel
theorem dX4_wind_118 : decode cX4_wind 118 = .ok (.invokevirtual 69, 3) := by decide +kernel
theorem dX4_wind_121 : decode cX4_wind 121 = .ok (.bipush 75, 2) := by decide +kernel
theorem dX4_wind_123 : decode cX4_wind 123 = .ok (.if_icmp .ne 49, 3) := by decide +kernel
theorem dX4_wind_126 : decode cX4_wind 126 = .ok (.aload_n 0, 1) := by decide +kernel
theorem dX4_wind_127 : decode cX4_wind 127 = .ok (.iload_n 2, 1) := by decide +kernel
theorem dX4_wind_128 : decode cX4_wind 128 = .ok (.iconst 1, 1) := by decide +kernel
theorem dX4_wind_129 : decode cX4_wind 129 = .ok (.isub, 1) := by decide +kernel
theorem dX4_wind_130 : decode cX4_wind 130 = .ok (.invokevirtual 69, 3) := by decide +kernel
theorem dX4_wind_133 : decode cX4_wind 133 = .ok (.bipush 84, 2) := by decide +kernel
theorem dX4_wind_135 : decode cX4_wind 135 = .ok (.if_icmp .ne 37, 3) := by decide +kernel
theorem dX4_wind_138 : decode cX4_wind 138 = .ok (.iload 5, 2) := by decide +kernel
theorem dX4_wind_140 : decode cX4_wind 140 = .ok (.ifCond .lt 32, 3) := by decide +kernel
theorem dX4_wind_143 : decode cX4_wind 143 = .ok (.iload_n 3, 1) := by decide +kernel
theorem dX4_wind_144 : decode cX4_wind 144 = .ok (.ifCond .ne 24, 3) := by decide +kernel
theorem dX4_wind_147 : decode cX4_wind 147 = .ok (.iload 4, 2) := by decide +kernel
theorem dX4_wind_149 : decode cX4_wind 149 = .ok (.ifCond .lt 23, 3) := by decide +kernel
theorem dX4_wind_152 : decode cX4_wind 152 = .ok (.iload 4, 2) := by decide +kernel
theorem dX4_wind_154 : decode cX4_wind 154 = .ok (.sipush 360, 3) := by decide +kernel
theorem dX4_wind_157 : decode cX4_wind 157 = .ok (.if_icmp .gt 15, 3) := by decide +kernel
theorem dX4_wind_160 : decode cX4_wind 160 = .ok (.iload 4, 2) := by decide +kernel
theorem dX4_wind_162 : decode cX4_wind 162 = .ok (.bipush 10, 2) := by decide +kernel
theorem dX4_wind_164 : decode cX4_wind 164 = .ok (.irem, 1) := by decide +kernel
theorem dX4_wind_165 : decode cX4_wind 165 = .ok (.ifCond .ne 7, 3) := by decide +kernel
theorem dX4_wind_168 : decode cX4_wind 168 = .ok (.iconst 1, 1) := by decide +kernel
theorem dX4_wind_169 : decode cX4_wind 169 = .ok (.goto 4, 3) := by decide +kernel
theorem dX4_wind_172 : decode cX4_wind 172 = .ok (.iconst 0, 1) := by decide +kernel
theorem dX4_wind_173 : decode cX4_wind 173 = .ok (.istore 7, 2) := by decide +kernel
theorem dX4_wind_175 : decode cX4_wind 175 = .ok (.iload 7, 2) := by decide +kernel
theorem dX4_wind_177 : decode cX4_wind 177 = .ok (.ifCond .eq 53, 3) := by decide +kernel
theorem dX4_wind_180 : decode cX4_wind 180 = .ok (.aload_n 0, 1) := by decide +kernel
theorem dX4_wind_181 : decode cX4_wind 181 = .ok (.getfield 22, 3) := by decide +kernel
theorem dX4_wind_184 : decode cX4_wind 184 = .ok (.bipush 10, 2) := by decide +kernel
theorem dX4_wind_186 : decode cX4_wind 186 = .ok (.iload_n 1, 1) := by decide +kernel
theorem dX4_wind_187 : decode cX4_wind 187 = .ok (.imul, 1) := by decide +kernel
theorem dX4_wind_188 : decode cX4_wind 188 = .ok (.iconst 4, 1) := by decide +kernel
theorem dX4_wind_189 : decode cX4_wind 189 = .ok (.iadd, 1) := by decide +kernel
theorem dX4_wind_190 : decode cX4_wind 190 = .ok (.iload 4, 2) := by decide +kernel
theorem dX4_wind_192 : decode cX4_wind 192 = .ok (.iastore, 1) := by decide +kernel
theorem dX4_wind_193 : decode cX4_wind 193 = .ok (.aload_n 0, 1) := by decide +kernel
theorem dX4_wind_194 : decode cX4_wind 194 = .ok (.getfield 22, 3) := by decide +kernel
theorem dX4_wind_197 : decode cX4_wind 197 = .ok (.bipush 10, 2) := by decide +kernel
theorem dX4_wind_199 : decode cX4_wind 199 = .ok (.iload_n 1, 1) := by decide +kernel
theorem dX4_wind_200 : decode cX4_wind 200 = .ok (.imul, 1) := by decide +kernel
theorem dX4_wind_201 : decode cX4_wind 201 = .ok (.iconst 5, 1) := by decide +kernel
theorem dX4_wind_202 : decode cX4_wind 202 = .ok (.iadd, 1) := by decide +kernel
theorem dX4_wind_203 : decode cX4_wind 203 = .ok (.iload 5, 2) := by decide +kernel
theorem dX4_wind_205 : decode cX4_wind 205 = .ok (.iastore, 1) := by decide +kernel
theorem dX4_wind_206 : decode cX4_wind 206 = .ok (.aload_n 0, 1) := by decide +kernel
theorem dX4_wind_207 : decode cX4_wind 207 = .ok (.getfield 22, 3) := by decide +kernel
theorem dX4_wind_210 : decode cX4_wind 210 = .ok (.bipush 10, 2) := by decide +kernel
theorem dX4_wind_212 : decode cX4_wind 212 = .ok (.iload_n 1, 1) := by decide +kernel
theorem dX4_wind_213 : decode cX4_wind 213 = .ok (.imul, 1) := by decide +kernel
theorem dX4_wind_214 : decode cX4_wind 214 = .ok (.bipush 6, 2) := by decide +kernel
theorem dX4_wind_216 : decode cX4_wind 216 = .ok (.iadd, 1) := by decide +kernel
theorem dX4_wind_217 : decode cX4_wind 217 = .ok (.iload 6, 2) := by decide +kernel
theorem dX4_wind_219 : decode cX4_wind 219 = .ok (.iastore, 1) := by decide +kernel
theorem dX4_wind_220 : decode cX4_wind 220 = .ok (.aload_n 0, 1) := by decide +kernel
theorem dX4_wind_221 : decode cX4_wind 221 = .ok (.dup, 1) := by decide +kernel
theorem dX4_wind_222 : decode cX4_wind 222 = .ok (.getfield 62, 3) := by decide +kernel
theorem dX4_wind_225 : decode cX4_wind 225 = .ok (.iconst 1, 1) := by decide +kernel
theorem dX4_wind_226 : decode cX4_wind 226 = .ok (.iadd, 1) := by decide +kernel
theorem dX4_wind_227 : decode cX4_wind 227 = .ok (.putfield 62, 3) := by decide +kernel
theorem dX4_wind_230 : decode cX4_wind 230 = .ok (.iload 7, 2) := by decide +kernel
theorem dX4_wind_232 : decode cX4_wind 232 = .ok (.ireturn, 1) := by decide +kernel
theorem dX4_visibility_0 : decode cX4_visibility 0 = .ok (.aload_n 0, 1) := by decide +kernel
theorem dX4_visibility_1 : decode cX4_visibility 1 = .ok (.invokevirtual 65, 3) := by decide +kernel
theorem dX4_visibility_4 : decode cX4_visibility 4 = .ok (.iconst 4, 1) := by decide +kernel
theorem dX4_visibility_5 : decode cX4_visibility 5 = .ok (.if_icmp .ne 16, 3) := by decide +kernel
theorem dX4_visibility_8 : decode cX4_visibility 8 = .ok (.aload_n 0, 1) := by decide +kernel
theorem dX4_visibility_9 : decode cX4_visibility 9 = .ok (.iconst 0, 1) := by decide +kernel
theorem dX4_visibility_10 : decode cX4_visibility 10 = .ok (.iconst 4, 1) := by decide +kernel
theorem dX4_visibility_11 : decode cX4_visibility 11 = .ok (.invokevirtual 76, 3) := by decide +kernel
theorem dX4_visibility_14 : decode cX4_visibility 14 = .ok (.ifCond .lt 7, 3) := by decide +kernel
theorem dX4_visibility_17 : decode cX4_visibility 17 = .ok (.iconst 1, 1) := by decide +kernel
theorem dX4_visibility_18 : decode cX4_visibility 18 = .ok (.goto 4, 3) := by decide +kernel
theorem dX4_visibility_21 : decode cX4_visibility 21 = .ok (.iconst 0, 1) := by decide +kernel
theorem dX4_visibility_22 : decode cX4_visibility 22 = .ok (.istore_n 2, 1) := by decide +kernel
theorem dX4_visibility_23 : decode cX4_visibility 23 = .ok (.iload_n 2, 1) := by decide +kernel
theorem dX4_visibility_24 : decode cX4_visibility 24 = .ok (.ifCond .eq 31, 3) := by decide +kernel
theorem dX4_visibility_27 : decode cX4_visibility 27 = .ok (.aload_n 0, 1) := by decide +kernel
theorem dX4_visibility_28 : decode cX4_visibility 28 = .ok (.getfield 22, 3) := by decide +kernel
theorem dX4_visibility_31 : decode cX4_visibility 31 = .ok (.bipush 10, 2) := by decide +kernel
theorem dX4_visibility_33 : decode cX4_visibility 33 = .ok (.iload_n 1, 1) := by decide +kernel
theorem dX4_visibility_34 : decode cX4_visibility 34 = .ok (.imul, 1) := by decide +kernel
theorem dX4_visibility_35 : decode cX4_visibility 35 = .ok (.bipush 7, 2) := by decide +kernel
theorem dX4_visibility_37 : decode cX4_visibility 37 = .ok (.iadd, 1) := by decide +kernel
theorem dX4_visibility_38 : decode cX4_visibility 38 = .ok (.aload_n 0, 1) := by decide +kernel
theorem dX4_visibility_39 : decode cX4_visibility 39 = .ok (.iconst 0, 1) := by decide +kernel
theorem dX4_visibility_40 : decode cX4_visibility 40 = .ok (.iconst 4, 1) := by decide +kernel
theorem dX4_visibility_41 : decode cX4_visibility 41 = .ok (.invokevirtual 76, 3) := by decide +kernel
theorem dX4_visibility_44 : decode cX4_visibility 44 = .ok (.iastore, 1) := by decide +kernel
theorem dX4_visibility_45 : decode cX4_visibility 45 = .ok (.aload_n 0, 1) := by decide +kernel
theorem dX4_visibility_46 : decode cX4_visibility 46 = .ok (.dup, 1) := by decide +kernel
theorem dX4_visibility_47 : decode cX4_visibility 47 = .ok (.getfield 62, 3) := by decide +kernel
theorem dX4_visibility_50 : decode cX4_visibility 50 = .ok (.iconst 1, 1) := by decide +kernel
theorem dX4_visibility_51 : decode cX4_visibility 51 = .ok (.iadd, 1) := by decide +kernel
theorem dX4_visibility_52 : decode cX4_visibility 52 = .ok (.putfield 62, 3) := by decide +kernel
theorem dX4_visibility_55 : decode cX4_visibility 55 = .ok (.iload_n 2, 1) := by decide +kernel
theorem dX4_visibility_56 : decode cX4_visibility 56 = .ok (.ireturn, 1) := by decide +kernel
theorem dX4_firstKind_0 : decode cX4_firstKind 0 = .ok (.iload_n 0, 1) := by decide +kernel
theorem dX4_firstKind_1 : decode cX4_firstKind 1 = .ok (.lookupswitch 93 #[(16963, 77), (16972, 83), (17490, 81), (18010, 90), (19785, 75), (20562, 79), (21320, 85), (21587, 87)], 75) := by decide +kernel
theorem dX4_firstKind_76 : decode cX4_firstKind 76 = .ok (.iconst 0, 1) := by decide +kernel
theorem dX4_firstKind_77 : decode cX4_firstKind 77 = .ok (.ireturn, 1) := by decide +kernel
theorem dX4_firstKind_78 : decode cX4_firstKind 78 = .ok (.iconst 1, 1) := by decide +kernel
theorem dX4_firstKind_79 : decode cX4_firstKind 79 = .ok (.ireturn, 1) := by decide +kernel
theorem dX4_firstKind_80 : decode cX4_firstKind 80 = .ok (.iconst 2, 1) := by decide +kernel
theorem dX4_firstKind_81 : decode cX4_firstKind 81 = .ok (.ireturn, 1) := by decide +kernel
theorem dX4_firstKind_82 : decode cX4_firstKind 82 = .ok (.iconst 3, 1) := by decide +kernel
theorem dX4_firstKind_83 : decode cX4_firstKind 83 = .ok (.ireturn, 1) := by decide +kernel
theorem dX4_firstKind_84 : decode cX4_firstKind 84 = .ok (.iconst 4, 1) := by decide +kernel
theorem dX4_firstKind_85 : decode cX4_firstKind 85 = .ok (.ireturn, 1) := by decide +kernel
theorem dX4_firstKind_86 : decode cX4_firstKind 86 = .ok (.iconst 5, 1) := by decide +kernel
theorem dX4_firstKind_87 : decode cX4_firstKind 87 = .ok (.ireturn, 1) := by decide +kernel
theorem dX4_firstKind_88 : decode cX4_firstKind 88 = .ok (.bipush 6, 2) := by decide +kernel
theorem dX4_firstKind_90 : decode cX4_firstKind 90 = .ok (.ireturn, 1) := by decide +kernel
theorem dX4_firstKind_91 : decode cX4_firstKind 91 = .ok (.bipush 7, 2) := by decide +kernel
theorem dX4_firstKind_93 : decode cX4_firstKind 93 = .ok (.ireturn, 1) := by decide +kernel
theorem dX4_firstKind_94 : decode cX4_firstKind 94 = .ok (.iconst (-1), 1) := by decide +kernel
theorem dX4_firstKind_95 : decode cX4_firstKind 95 = .ok (.ireturn, 1) := by decide +kernel
theorem dX4_secondKind_0 : decode cX4_secondKind 0 = .ok (.iload_n 0, 1) := by decide +kernel
theorem dX4_secondKind_1 : decode cX4_secondKind 1 = .ok (.lookupswitch 115 #[(16978, 106), (17498, 91), (17991, 109), (18005, 112), (18258, 101), (18259, 103), (20556, 99), (21057, 93), (21319, 97), (21326, 95)], 91) := by decide +kernel
theorem dX4_secondKind_92 : decode cX4_secondKind 92 = .ok (.iconst 0, 1) := by decide +kernel
theorem dX4_secondKind_93 : decode cX4_secondKind 93 = .ok (.ireturn, 1) := by decide +kernel
theorem dX4_secondKind_94 : decode cX4_secondKind 94 = .ok (.iconst 1, 1) := by decide +kernel
theorem dX4_secondKind_95 : decode cX4_secondKind 95 = .ok (.ireturn, 1) := by decide +kernel
theorem dX4_secondKind_96 : decode cX4_secondKind 96 = .ok (.iconst 2, 1) := by decide +kernel
theorem dX4_secondKind_97 : decode cX4_secondKind 97 = .ok (.ireturn, 1) := by decide +kernel
theorem dX4_secondKind_98 : decode cX4_secondKind 98 = .ok (.iconst 3, 1) := by decide +kernel
theorem dX4_secondKind_99 : decode cX4_secondKind 99 = .ok (.ireturn, 1) := by decide +kernel
theorem dX4_secondKind_100 : decode cX4_secondKind 100 = .ok (.iconst 4, 1) := by decide +kernel
theorem dX4_secondKind_101 : decode cX4_secondKind 101 = .ok (.ireturn, 1) := by decide +kernel
theorem dX4_secondKind_102 : decode cX4_secondKind 102 = .ok (.iconst 5, 1) := by decide +kernel
theorem dX4_secondKind_103 : decode cX4_secondKind 103 = .ok (.ireturn, 1) := by decide +kernel
theorem dX4_secondKind_104 : decode cX4_secondKind 104 = .ok (.bipush 6, 2) := by decide +kernel
theorem dX4_secondKind_106 : decode cX4_secondKind 106 = .ok (.ireturn, 1) := by decide +kernel
theorem dX4_secondKind_107 : decode cX4_secondKind 107 = .ok (.bipush 7, 2) := by decide +kernel
theorem dX4_secondKind_109 : decode cX4_secondKind 109 = .ok (.ireturn, 1) := by decide +kernel
theorem dX4_secondKind_110 : decode cX4_secondKind 110 = .ok (.bipush 8, 2) := by decide +kernel
theorem dX4_secondKind_112 : decode cX4_secondKind 112 = .ok (.ireturn, 1) := by decide +kernel
theorem dX4_secondKind_113 : decode cX4_secondKind 113 = .ok (.bipush 9, 2) := by decide +kernel
theorem dX4_secondKind_115 : decode cX4_secondKind 115 = .ok (.ireturn, 1) := by decide +kernel
theorem dX4_secondKind_116 : decode cX4_secondKind 116 = .ok (.iload_n 0, 1) := by decide +kernel
theorem dX4_secondKind_117 : decode cX4_secondKind 117 = .ok (.invokestatic 103, 3) := by decide +kernel
theorem dX4_secondKind_120 : decode cX4_secondKind 120 = .ok (.ireturn, 1) := by decide +kernel
theorem dX4_thirdKind_0 : decode cX4_thirdKind 0 = .ok (.iload_n 0, 1) := by decide +kernel
theorem dX4_thirdKind_1 : decode cX4_thirdKind 1 = .ok (.lookupswitch 110 #[(17491, 107), (17493, 86), (17987, 101), (18522, 92), (20559, 95), (21313, 89), (21329, 98), (21331, 104), (22081, 83)], 83) := by decide +kernel
theorem dX4_thirdKind_84 : decode cX4_thirdKind 84 = .ok (.bipush 10, 2) := by decide +kernel
theorem dX4_thirdKind_86 : decode cX4_thirdKind 86 = .ok (.ireturn, 1) := by decide +kernel
theorem dX4_thirdKind_87 : decode cX4_thirdKind 87 = .ok (.bipush 11, 2) := by decide +kernel
theorem dX4_thirdKind_89 : decode cX4_thirdKind 89 = .ok (.ireturn, 1) := by decide +kernel
theorem dX4_thirdKind_90 : decode cX4_thirdKind 90 = .ok (.bipush 12, 2) := by decide +kernel
theorem dX4_thirdKind_92 : decode cX4_thirdKind 92 = .ok (.ireturn, 1) := by decide +kernel
theorem dX4_thirdKind_93 : decode cX4_thirdKind 93 = .ok (.bipush 13, 2) := by decide +kernel
theorem dX4_thirdKind_95 : decode cX4_thirdKind 95 = .ok (.ireturn, 1) := by decide +kernel
theorem dX4_thirdKind_96 : decode cX4_thirdKind 96 = .ok (.bipush 14, 2) := by decide +kernel
theorem dX4_thirdKind_98 : decode cX4_thirdKind 98 = .ok (.ireturn, 1) := by decide +kernel
theorem dX4_thirdKind_99 : decode cX4_thirdKind 99 = .ok (.bipush 15, 2) := by decide +kernel
theorem dX4_thirdKind_101 : decode cX4_thirdKind 101 = .ok (.ireturn, 1) := by decide +kernel
theorem dX4_thirdKind_102 : decode cX4_thirdKind 102 = .ok (.bipush 16, 2) := by decide +kernel
theorem dX4_thirdKind_104 : decode cX4_thirdKind 104 = .ok (.ireturn, 1) := by decide +kernel
theorem dX4_thirdKind_105 : decode cX4_thirdKind 105 = .ok (.bipush 17, 2) := by decide +kernel
theorem dX4_thirdKind_107 : decode cX4_thirdKind 107 = .ok (.ireturn, 1) := by decide +kernel
theorem dX4_thirdKind_108 : decode cX4_thirdKind 108 = .ok (.bipush 18, 2) := by decide +kernel
theorem dX4_thirdKind_110 : decode cX4_thirdKind 110 = .ok (.ireturn, 1) := by decide +kernel
theorem dX4_thirdKind_111 : decode cX4_thirdKind 111 = .ok (.iconst (-1), 1) := by decide +kernel
theorem dX4_thirdKind_112 : decode cX4_thirdKind 112 = .ok (.ireturn, 1) := by decide +kernel
theorem dX4_weatherHere_0 : decode cX4_weatherHere 0 = .ok (.aload_n 0, 1) := by decide +kernel
theorem dX4_weatherHere_1 : decode cX4_weatherHere 1 = .ok (.iconst 0, 1) := by decide +kernel
theorem dX4_weatherHere_2 : decode cX4_weatherHere 2 = .ok (.invokevirtual 69, 3) := by decide +kernel
theorem dX4_weatherHere_5 : decode cX4_weatherHere 5 = .ok (.bipush 45, 2) := by decide +kernel
theorem dX4_weatherHere_7 : decode cX4_weatherHere 7 = .ok (.if_icmp .ne 7, 3) := by decide +kernel
theorem dX4_weatherHere_10 : decode cX4_weatherHere 10 = .ok (.iconst 1, 1) := by decide +kernel
theorem dX4_weatherHere_11 : decode cX4_weatherHere 11 = .ok (.goto 42, 3) := by decide +kernel
theorem dX4_weatherHere_14 : decode cX4_weatherHere 14 = .ok (.aload_n 0, 1) := by decide +kernel
theorem dX4_weatherHere_15 : decode cX4_weatherHere 15 = .ok (.iconst 0, 1) := by decide +kernel
theorem dX4_weatherHere_16 : decode cX4_weatherHere 16 = .ok (.invokevirtual 69, 3) := by decide +kernel
theorem dX4_weatherHere_19 : decode cX4_weatherHere 19 = .ok (.bipush 43, 2) := by decide +kernel
theorem dX4_weatherHere_21 : decode cX4_weatherHere 21 = .ok (.if_icmp .ne 7, 3) := by decide +kernel
theorem dX4_weatherHere_24 : decode cX4_weatherHere 24 = .ok (.iconst 2, 1) := by decide +kernel
theorem dX4_weatherHere_25 : decode cX4_weatherHere 25 = .ok (.goto 28, 3) := by decide +kernel
theorem dX4_weatherHere_28 : decode cX4_weatherHere 28 = .ok (.aload_n 0, 1) := by decide +kernel
theorem dX4_weatherHere_29 : decode cX4_weatherHere 29 = .ok (.iconst 0, 1) := by decide +kernel
theorem dX4_weatherHere_30 : decode cX4_weatherHere 30 = .ok (.invokevirtual 69, 3) := by decide +kernel
theorem dX4_weatherHere_33 : decode cX4_weatherHere 33 = .ok (.bipush 86, 2) := by decide +kernel
theorem dX4_weatherHere_35 : decode cX4_weatherHere 35 = .ok (.if_icmp .ne 17, 3) := by decide +kernel
theorem dX4_weatherHere_38 : decode cX4_weatherHere 38 = .ok (.aload_n 0, 1) := by decide +kernel
theorem dX4_weatherHere_39 : decode cX4_weatherHere 39 = .ok (.iconst 1, 1) := by decide +kernel
theorem dX4_weatherHere_40 : decode cX4_weatherHere 40 = .ok (.invokevirtual 69, 3) := by decide +kernel
theorem dX4_weatherHere_43 : decode cX4_weatherHere 43 = .ok (.bipush 67, 2) := by decide +kernel
theorem dX4_weatherHere_45 : decode cX4_weatherHere 45 = .ok (.if_icmp .ne 7, 3) := by decide +kernel
theorem dX4_weatherHere_48 : decode cX4_weatherHere 48 = .ok (.iconst 3, 1) := by decide +kernel
theorem dX4_weatherHere_49 : decode cX4_weatherHere 49 = .ok (.goto 4, 3) := by decide +kernel
theorem dX4_weatherHere_52 : decode cX4_weatherHere 52 = .ok (.iconst 0, 1) := by decide +kernel
theorem dX4_weatherHere_53 : decode cX4_weatherHere 53 = .ok (.istore_n 1, 1) := by decide +kernel
theorem dX4_weatherHere_54 : decode cX4_weatherHere 54 = .ok (.iload_n 1, 1) := by decide +kernel
theorem dX4_weatherHere_55 : decode cX4_weatherHere 55 = .ok (.iconst 3, 1) := by decide +kernel
theorem dX4_weatherHere_56 : decode cX4_weatherHere 56 = .ok (.if_icmp .ne 7, 3) := by decide +kernel
theorem dX4_weatherHere_59 : decode cX4_weatherHere 59 = .ok (.iconst 2, 1) := by decide +kernel
theorem dX4_weatherHere_60 : decode cX4_weatherHere 60 = .ok (.goto 12, 3) := by decide +kernel
theorem dX4_weatherHere_63 : decode cX4_weatherHere 63 = .ok (.iload_n 1, 1) := by decide +kernel
theorem dX4_weatherHere_64 : decode cX4_weatherHere 64 = .ok (.ifCond .le 7, 3) := by decide +kernel
theorem dX4_weatherHere_67 : decode cX4_weatherHere 67 = .ok (.iconst 1, 1) := by decide +kernel
theorem dX4_weatherHere_68 : decode cX4_weatherHere 68 = .ok (.goto 4, 3) := by decide +kernel
theorem dX4_weatherHere_71 : decode cX4_weatherHere 71 = .ok (.iconst 0, 1) := by decide +kernel
theorem dX4_weatherHere_72 : decode cX4_weatherHere 72 = .ok (.istore_n 2, 1) := by decide +kernel
theorem dX4_weatherHere_73 : decode cX4_weatherHere 73 = .ok (.aload_n 0, 1) := by decide +kernel
theorem dX4_weatherHere_74 : decode cX4_weatherHere 74 = .ok (.iload_n 2, 1) := by decide +kernel
theorem dX4_weatherHere_75 : decode cX4_weatherHere 75 = .ok (.invokevirtual 106, 3) := by decide +kernel
theorem dX4_weatherHere_78 : decode cX4_weatherHere 78 = .ok (.invokestatic 109, 3) := by decide +kernel
theorem dX4_weatherHere_81 : decode cX4_weatherHere 81 = .ok (.istore_n 3, 1) := by decide +kernel
theorem dX4_weatherHere_82 : decode cX4_weatherHere 82 = .ok (.iload_n 3, 1) := by decide +kernel
theorem dX4_weatherHere_83 : decode cX4_weatherHere 83 = .ok (.ifCond .lt 9, 3) := by decide +kernel
theorem dX4_weatherHere_86 : decode cX4_weatherHere 86 = .ok (.iload_n 2, 1) := by decide +kernel
theorem dX4_weatherHere_87 : decode cX4_weatherHere 87 = .ok (.iconst 2, 1) := by decide +kernel
theorem dX4_weatherHere_88 : decode cX4_weatherHere 88 = .ok (.iadd, 1) := by decide +kernel
theorem dX4_weatherHere_89 : decode cX4_weatherHere 89 = .ok (.goto 4, 3) := by decide +kernel
theorem dX4_weatherHere_92 : decode cX4_weatherHere 92 = .ok (.iload_n 2, 1) := by decide +kernel
theorem dX4_weatherHere_93 : decode cX4_weatherHere 93 = .ok (.istore_n 2, 1) := by decide +kernel
theorem dX4_weatherHere_94 : decode cX4_weatherHere 94 = .ok (.iload_n 3, 1) := by decide +kernel
theorem dX4_weatherHere_95 : decode cX4_weatherHere 95 = .ok (.ifCond .lt 13, 3) := by decide +kernel
theorem dX4_weatherHere_98 : decode cX4_weatherHere 98 = .ok (.iload_n 1, 1) := by decide +kernel
theorem dX4_weatherHere_99 : decode cX4_weatherHere 99 = .ok (.iconst 4, 1) := by decide +kernel
theorem dX4_weatherHere_100 : decode cX4_weatherHere 100 = .ok (.iload_n 3, 1) := by decide +kernel
theorem dX4_weatherHere_101 : decode cX4_weatherHere 101 = .ok (.iconst 1, 1) := by decide +kernel
theorem dX4_weatherHere_102 : decode cX4_weatherHere 102 = .ok (.iadd, 1) := by decide +kernel
theorem dX4_weatherHere_103 : decode cX4_weatherHere 103 = .ok (.imul, 1) := by decide +kernel
theorem dX4_weatherHere_104 : decode cX4_weatherHere 104 = .ok (.iadd, 1) := by decide +kernel
theorem dX4_weatherHere_105 : decode cX4_weatherHere 105 = .ok (.goto 4, 3) := by decide +kernel
theorem dX4_weatherHere_108 : decode cX4_weatherHere 108 = .ok (.iload_n 1, 1) := by decide +kernel
theorem dX4_weatherHere_109 : decode cX4_weatherHere 109 = .ok (.istore_n 1, 1) := by decide +kernel
theorem dX4_weatherHere_110 : decode cX4_weatherHere 110 = .ok (.bipush 64, 2) := by decide +kernel
theorem dX4_weatherHere_112 : decode cX4_weatherHere 112 = .ok (.istore 4, 2) := by decide +kernel
theorem dX4_weatherHere_114 : decode cX4_weatherHere 114 = .ok (.iconst 0, 1) := by decide +kernel
theorem dX4_weatherHere_115 : decode cX4_weatherHere 115 = .ok (.istore 5, 2) := by decide +kernel
theorem dX4_weatherHere_117 : decode cX4_weatherHere 117 = .ok (.iload 5, 2) := by decide +kernel
theorem dX4_weatherHere_119 : decode cX4_weatherHere 119 = .ok (.iconst 3, 1) := by decide +kernel
theorem dX4_weatherHere_120 : decode cX4_weatherHere 120 = .ok (.if_icmp .ge 54, 3) := by decide +kernel
theorem dX4_weatherHere_123 : decode cX4_weatherHere 123 = .ok (.iload_n 2, 1) := by decide +kernel
theorem dX4_weatherHere_124 : decode cX4_weatherHere 124 = .ok (.aload_n 0, 1) := by decide +kernel
theorem dX4_weatherHere_125 : decode cX4_weatherHere 125 = .ok (.invokevirtual 65, 3) := by decide +kernel
theorem dX4_weatherHere_128 : decode cX4_weatherHere 128 = .ok (.if_icmp .ge 46, 3) := by decide +kernel
theorem dX4_weatherHere_131 : decode cX4_weatherHere 131 = .ok (.aload_n 0, 1) := by decide +kernel
theorem dX4_weatherHere_132 : decode cX4_weatherHere 132 = .ok (.iload_n 2, 1) := by decide +kernel
theorem dX4_weatherHere_133 : decode cX4_weatherHere 133 = .ok (.invokevirtual 106, 3) := by decide +kernel
theorem dX4_weatherHere_136 : decode cX4_weatherHere 136 = .ok (.invokestatic 112, 3) := by decide +kernel
theorem dX4_weatherHere_139 : decode cX4_weatherHere 139 = .ok (.ifCond .lt 35, 3) := by decide +kernel
theorem dX4_weatherHere_142 : decode cX4_weatherHere 142 = .ok (.iload_n 1, 1) := by decide +kernel
theorem dX4_weatherHere_143 : decode cX4_weatherHere 143 = .ok (.iload 4, 2) := by decide +kernel
theorem dX4_weatherHere_145 : decode cX4_weatherHere 145 = .ok (.aload_n 0, 1) := by decide +kernel
theorem dX4_weatherHere_146 : decode cX4_weatherHere 146 = .ok (.iload_n 2, 1) := by decide +kernel
theorem dX4_weatherHere_147 : decode cX4_weatherHere 147 = .ok (.invokevirtual 106, 3) := by decide +kernel
theorem dX4_weatherHere_150 : decode cX4_weatherHere 150 = .ok (.invokestatic 112, 3) := by decide +kernel
theorem dX4_weatherHere_153 : decode cX4_weatherHere 153 = .ok (.iconst 1, 1) := by decide +kernel
theorem dX4_weatherHere_154 : decode cX4_weatherHere 154 = .ok (.iadd, 1) := by decide +kernel
theorem dX4_weatherHere_155 : decode cX4_weatherHere 155 = .ok (.imul, 1) := by decide +kernel
theorem dX4_weatherHere_156 : decode cX4_weatherHere 156 = .ok (.iadd, 1) := by decide +kernel
theorem dX4_weatherHere_157 : decode cX4_weatherHere 157 = .ok (.istore_n 1, 1) := by decide +kernel
theorem dX4_weatherHere_158 : decode cX4_weatherHere 158 = .ok (.iload 4, 2) := by decide +kernel
theorem dX4_weatherHere_160 : decode cX4_weatherHere 160 = .ok (.bipush 32, 2) := by decide +kernel
theorem dX4_weatherHere_162 : decode cX4_weatherHere 162 = .ok (.imul, 1) := by decide +kernel
theorem dX4_weatherHere_163 : decode cX4_weatherHere 163 = .ok (.istore 4, 2) := by decide +kernel
theorem dX4_weatherHere_165 : decode cX4_weatherHere 165 = .ok (.iinc 5 1, 3) := by decide +kernel
theorem dX4_weatherHere_168 : decode cX4_weatherHere 168 = .ok (.iinc 2 2, 3) := by decide +kernel
theorem dX4_weatherHere_171 : decode cX4_weatherHere 171 = .ok (.goto (-54), 3) := by decide +kernel
theorem dX4_weatherHere_174 : decode cX4_weatherHere 174 = .ok (.iload_n 2, 1) := by decide +kernel
theorem dX4_weatherHere_175 : decode cX4_weatherHere 175 = .ok (.aload_n 0, 1) := by decide +kernel
theorem dX4_weatherHere_176 : decode cX4_weatherHere 176 = .ok (.invokevirtual 65, 3) := by decide +kernel
theorem dX4_weatherHere_179 : decode cX4_weatherHere 179 = .ok (.if_icmp .ne 25, 3) := by decide +kernel
theorem dX4_weatherHere_182 : decode cX4_weatherHere 182 = .ok (.aload_n 0, 1) := by decide +kernel
theorem dX4_weatherHere_183 : decode cX4_weatherHere 183 = .ok (.invokevirtual 65, 3) := by decide +kernel
theorem dX4_weatherHere_186 : decode cX4_weatherHere 186 = .ok (.ifCond .le 18, 3) := by decide +kernel
theorem dX4_weatherHere_189 : decode cX4_weatherHere 189 = .ok (.iload 5, 2) := by decide +kernel
theorem dX4_weatherHere_191 : decode cX4_weatherHere 191 = .ok (.ifCond .gt 9, 3) := by decide +kernel
theorem dX4_weatherHere_194 : decode cX4_weatherHere 194 = .ok (.iload_n 3, 1) := by decide +kernel
theorem dX4_weatherHere_195 : decode cX4_weatherHere 195 = .ok (.bipush 6, 2) := by decide +kernel
theorem dX4_weatherHere_197 : decode cX4_weatherHere 197 = .ok (.if_icmp .ne 7, 3) := by decide +kernel
theorem dX4_weatherHere_200 : decode cX4_weatherHere 200 = .ok (.iload_n 1, 1) := by decide +kernel
theorem dX4_weatherHere_201 : decode cX4_weatherHere 201 = .ok (.goto 4, 3) := by decide +kernel
theorem dX4_weatherHere_204 : decode cX4_weatherHere 204 = .ok (.iconst (-1), 1) := by decide +kernel
theorem dX4_weatherHere_205 : decode cX4_weatherHere 205 = .ok (.ireturn, 1) := by decide +kernel
theorem dX4_cloudHere_0 : decode cX4_cloudHere 0 = .ok (.aload_n 0, 1) := by decide +kernel
theorem dX4_cloudHere_1 : decode cX4_cloudHere 1 = .ok (.invokevirtual 65, 3) := by decide +kernel
theorem dX4_cloudHere_4 : decode cX4_cloudHere 4 = .ok (.istore_n 1, 1) := by decide +kernel
theorem dX4_cloudHere_5 : decode cX4_cloudHere 5 = .ok (.sipush 256, 3) := by decide +kernel
theorem dX4_cloudHere_8 : decode cX4_cloudHere 8 = .ok (.aload_n 0, 1) := by decide +kernel
theorem dX4_cloudHere_9 : decode cX4_cloudHere 9 = .ok (.iconst 0, 1) := by decide +kernel
theorem dX4_cloudHere_10 : decode cX4_cloudHere 10 = .ok (.invokevirtual 106, 3) := by decide +kernel
theorem dX4_cloudHere_13 : decode cX4_cloudHere 13 = .ok (.imul, 1) := by decide +kernel
theorem dX4_cloudHere_14 : decode cX4_cloudHere 14 = .ok (.aload_n 0, 1) := by decide +kernel
theorem dX4_cloudHere_15 : decode cX4_cloudHere 15 = .ok (.iconst 2, 1) := by decide +kernel
theorem dX4_cloudHere_16 : decode cX4_cloudHere 16 = .ok (.invokevirtual 69, 3) := by decide +kernel
theorem dX4_cloudHere_19 : decode cX4_cloudHere 19 = .ok (.iadd, 1) := by decide +kernel
theorem dX4_cloudHere_20 : decode cX4_cloudHere 20 = .ok (.istore_n 2, 1) := by decide +kernel
theorem dX4_cloudHere_21 : decode cX4_cloudHere 21 = .ok (.iload_n 2, 1) := by decide +kernel
theorem dX4_cloudHere_22 : decode cX4_cloudHere 22 = .ok (.ldc 115, 2) := by decide +kernel
theorem dX4_cloudHere_24 : decode cX4_cloudHere 24 = .ok (.if_icmp .ne 7, 3) := by decide +kernel
theorem dX4_cloudHere_27 : decode cX4_cloudHere 27 = .ok (.iconst 1, 1) := by decide +kernel
theorem dX4_cloudHere_28 : decode cX4_cloudHere 28 = .ok (.goto 34, 3) := by decide +kernel
theorem dX4_cloudHere_31 : decode cX4_cloudHere 31 = .ok (.iload_n 2, 1) := by decide +kernel
theorem dX4_cloudHere_32 : decode cX4_cloudHere 32 = .ok (.ldc 116, 2) := by decide +kernel
theorem dX4_cloudHere_34 : decode cX4_cloudHere 34 = .ok (.if_icmp .ne 7, 3) := by decide +kernel
theorem dX4_cloudHere_37 : decode cX4_cloudHere 37 = .ok (.iconst 2, 1) := by decide +kernel
theorem dX4_cloudHere_38 : decode cX4_cloudHere 38 = .ok (.goto 24, 3) := by decide +kernel
theorem dX4_cloudHere_41 : decode cX4_cloudHere 41 = .ok (.iload_n 2, 1) := by decide +kernel
theorem dX4_cloudHere_42 : decode cX4_cloudHere 42 = .ok (.ldc 117, 2) := by decide +kernel
theorem dX4_cloudHere_44 : decode cX4_cloudHere 44 = .ok (.if_icmp .ne 7, 3) := by decide +kernel
theorem dX4_cloudHere_47 : decode cX4_cloudHere 47 = .ok (.iconst 3, 1) := by decide +kernel
theorem dX4_cloudHere_48 : decode cX4_cloudHere 48 = .ok (.goto 14, 3) := by decide +kernel
theorem dX4_cloudHere_51 : decode cX4_cloudHere 51 = .ok (.iload_n 2, 1) := by decide +kernel
theorem dX4_cloudHere_52 : decode cX4_cloudHere 52 = .ok (.ldc 118, 2) := by decide +kernel
theorem dX4_cloudHere_54 : decode cX4_cloudHere 54 = .ok (.if_icmp .ne 7, 3) := by decide +kernel
theorem dX4_cloudHere_57 : decode cX4_cloudHere 57 = .ok (.iconst 4, 1) := by decide +kernel
theorem dX4_cloudHere_58 : decode cX4_cloudHere 58 = .ok (.goto 4, 3) := by decide +kernel
theorem dX4_cloudHere_61 : decode cX4_cloudHere 61 = .ok (.iconst 0, 1) := by decide +kernel
theorem dX4_cloudHere_62 : decode cX4_cloudHere 62 = .ok (.istore_n 3, 1) := by decide +kernel
theorem dX4_cloudHere_63 : decode cX4_cloudHere 63 = .ok (.aload_n 0, 1) := by decide +kernel
theorem dX4_cloudHere_64 : decode cX4_cloudHere 64 = .ok (.iconst 3, 1) := by decide +kernel
theorem dX4_cloudHere_65 : decode cX4_cloudHere 65 = .ok (.iconst 3, 1) := by decide +kernel
theorem dX4_cloudHere_66 : decode cX4_cloudHere 66 = .ok (.invokevirtual 76, 3) := by decide +kernel
theorem dX4_cloudHere_69 : decode cX4_cloudHere 69 = .ok (.istore 4, 2) := by decide +kernel
theorem dX4_cloudHere_71 : decode cX4_cloudHere 71 = .ok (.iload_n 1, 1) := by decide +kernel
theorem dX4_cloudHere_72 : decode cX4_cloudHere 72 = .ok (.bipush 8, 2) := by decide +kernel
theorem dX4_cloudHere_74 : decode cX4_cloudHere 74 = .ok (.if_icmp .ne 19, 3) := by decide +kernel
theorem dX4_cloudHere_77 : decode cX4_cloudHere 77 = .ok (.aload_n 0, 1) := by decide +kernel
theorem dX4_cloudHere_78 : decode cX4_cloudHere 78 = .ok (.bipush 6, 2) := by decide +kernel
theorem dX4_cloudHere_80 : decode cX4_cloudHere 80 = .ok (.invokevirtual 106, 3) := by decide +kernel
theorem dX4_cloudHere_83 : decode cX4_cloudHere 83 = .ok (.sipush 17218, 3) := by decide +kernel
theorem dX4_cloudHere_86 : decode cX4_cloudHere 86 = .ok (.if_icmp .ne 7, 3) := by decide +kernel
theorem dX4_cloudHere_89 : decode cX4_cloudHere 89 = .ok (.iconst 1, 1) := by decide +kernel
theorem dX4_cloudHere_90 : decode cX4_cloudHere 90 = .ok (.goto 37, 3) := by decide +kernel
theorem dX4_cloudHere_93 : decode cX4_cloudHere 93 = .ok (.iload_n 1, 1) := by decide +kernel
theorem dX4_cloudHere_94 : decode cX4_cloudHere 94 = .ok (.bipush 9, 2) := by decide +kernel
theorem dX4_cloudHere_96 : decode cX4_cloudHere 96 = .ok (.if_icmp .ne 30, 3) := by decide +kernel
theorem dX4_cloudHere_99 : decode cX4_cloudHere 99 = .ok (.aload_n 0, 1) := by decide +kernel
theorem dX4_cloudHere_100 : decode cX4_cloudHere 100 = .ok (.bipush 6, 2) := by decide +kernel
theorem dX4_cloudHere_102 : decode cX4_cloudHere 102 = .ok (.invokevirtual 69, 3) := by decide +kernel
theorem dX4_cloudHere_105 : decode cX4_cloudHere 105 = .ok (.bipush 84, 2) := by decide +kernel
theorem dX4_cloudHere_107 : decode cX4_cloudHere 107 = .ok (.if_icmp .ne 19, 3) := by decide +kernel
theorem dX4_cloudHere_110 : decode cX4_cloudHere 110 = .ok (.aload_n 0, 1) := by decide +kernel
theorem dX4_cloudHere_111 : decode cX4_cloudHere 111 = .ok (.bipush 7, 2) := by decide +kernel
theorem dX4_cloudHere_113 : decode cX4_cloudHere 113 = .ok (.invokevirtual 106, 3) := by decide +kernel
theorem dX4_cloudHere_116 : decode cX4_cloudHere 116 = .ok (.sipush 17237, 3) := by decide +kernel
theorem dX4_cloudHere_119 : decode cX4_cloudHere 119 = .ok (.if_icmp .ne 7, 3) := by decide +kernel
theorem dX4_cloudHere_122 : decode cX4_cloudHere 122 = .ok (.iconst 2, 1) := by decide +kernel
theorem dX4_cloudHere_123 : decode cX4_cloudHere 123 = .ok (.goto 4, 3) := by decide +kernel
theorem dX4_cloudHere_126 : decode cX4_cloudHere 126 = .ok (.iconst 0, 1) := by decide +kernel
theorem dX4_cloudHere_127 : decode cX4_cloudHere 127 = .ok (.istore 5, 2) := by decide +kernel
theorem dX4_cloudHere_129 : decode cX4_cloudHere 129 = .ok (.iload_n 3, 1) := by decide +kernel
theorem dX4_cloudHere_130 : decode cX4_cloudHere 130 = .ok (.ifCond .le 36, 3) := by decide +kernel
theorem dX4_cloudHere_133 : decode cX4_cloudHere 133 = .ok (.iload 4, 2) := by decide +kernel
theorem dX4_cloudHere_135 : decode cX4_cloudHere 135 = .ok (.ifCond .lt 31, 3) := by decide +kernel
theorem dX4_cloudHere_138 : decode cX4_cloudHere 138 = .ok (.iload_n 1, 1) := by decide +kernel
theorem dX4_cloudHere_139 : decode cX4_cloudHere 139 = .ok (.bipush 6, 2) := by decide +kernel
theorem dX4_cloudHere_141 : decode cX4_cloudHere 141 = .ok (.if_icmp .eq 8, 3) := by decide +kernel
theorem dX4_cloudHere_144 : decode cX4_cloudHere 144 = .ok (.iload 5, 2) := by decide +kernel
theorem dX4_cloudHere_146 : decode cX4_cloudHere 146 = .ok (.ifCond .le 20, 3) := by decide +kernel
theorem dX4_cloudHere_149 : decode cX4_cloudHere 149 = .ok (.iload_n 3, 1) := by decide +kernel
theorem dX4_cloudHere_150 : decode cX4_cloudHere 150 = .ok (.bipush 8, 2) := by decide +kernel
theorem dX4_cloudHere_152 : decode cX4_cloudHere 152 = .ok (.iload 4, 2) := by decide +kernel
theorem dX4_cloudHere_154 : decode cX4_cloudHere 154 = .ok (.imul, 1) := by decide +kernel
theorem dX4_cloudHere_155 : decode cX4_cloudHere 155 = .ok (.iadd, 1) := by decide +kernel
theorem dX4_cloudHere_156 : decode cX4_cloudHere 156 = .ok (.sipush 8192, 3) := by decide +kernel
theorem dX4_cloudHere_159 : decode cX4_cloudHere 159 = .ok (.iload 5, 2) := by decide +kernel
theorem dX4_cloudHere_161 : decode cX4_cloudHere 161 = .ok (.imul, 1) := by decide +kernel
theorem dX4_cloudHere_162 : decode cX4_cloudHere 162 = .ok (.iadd, 1) := by decide +kernel
theorem dX4_cloudHere_163 : decode cX4_cloudHere 163 = .ok (.goto 4, 3) := by decide +kernel
theorem dX4_cloudHere_166 : decode cX4_cloudHere 166 = .ok (.iconst (-1), 1) := by decide +kernel
theorem dX4_cloudHere_167 : decode cX4_cloudHere 167 = .ok (.ireturn, 1) := by decide +kernel
theorem dX4_weatherOf_0 : decode cX4_weatherOf 0 = .ok (.iconst 0, 1) := by decide +kernel
theorem dX4_weatherOf_1 : decode cX4_weatherOf 1 = .ok (.istore_n 2, 1) := by decide +kernel
theorem dX4_weatherOf_2 : decode cX4_weatherOf 2 = .ok (.iload_n 2, 1) := by decide +kernel
theorem dX4_weatherOf_3 : decode cX4_weatherOf 3 = .ok (.iconst 3, 1) := by decide +kernel
theorem dX4_weatherOf_4 : decode cX4_weatherOf 4 = .ok (.if_icmp .ge 40, 3) := by decide +kernel
theorem dX4_weatherOf_7 : decode cX4_weatherOf 7 = .ok (.aload_n 0, 1) := by decide +kernel
theorem dX4_weatherOf_8 : decode cX4_weatherOf 8 = .ok (.invokevirtual 119, 3) := by decide +kernel
theorem dX4_weatherOf_11 : decode cX4_weatherOf 11 = .ok (.ifCond .lt 33, 3) := by decide +kernel
theorem dX4_weatherOf_14 : decode cX4_weatherOf 14 = .ok (.aload_n 0, 1) := by decide +kernel
theorem dX4_weatherOf_15 : decode cX4_weatherOf 15 = .ok (.getfield 25, 3) := by decide +kernel
theorem dX4_weatherOf_18 : decode cX4_weatherOf 18 = .ok (.iconst 3, 1) := by decide +kernel
theorem dX4_weatherOf_19 : decode cX4_weatherOf 19 = .ok (.iload_n 1, 1) := by decide +kernel
theorem dX4_weatherOf_20 : decode cX4_weatherOf 20 = .ok (.imul, 1) := by decide +kernel
theorem dX4_weatherOf_21 : decode cX4_weatherOf 21 = .ok (.iload_n 2, 1) := by decide +kernel
theorem dX4_weatherOf_22 : decode cX4_weatherOf 22 = .ok (.iadd, 1) := by decide +kernel
theorem dX4_weatherOf_23 : decode cX4_weatherOf 23 = .ok (.aload_n 0, 1) := by decide +kernel
theorem dX4_weatherOf_24 : decode cX4_weatherOf 24 = .ok (.invokevirtual 119, 3) := by decide +kernel
theorem dX4_weatherOf_27 : decode cX4_weatherOf 27 = .ok (.iastore, 1) := by decide +kernel
theorem dX4_weatherOf_28 : decode cX4_weatherOf 28 = .ok (.iinc 2 1, 3) := by decide +kernel
theorem dX4_weatherOf_31 : decode cX4_weatherOf 31 = .ok (.aload_n 0, 1) := by decide +kernel
theorem dX4_weatherOf_32 : decode cX4_weatherOf 32 = .ok (.dup, 1) := by decide +kernel
theorem dX4_weatherOf_33 : decode cX4_weatherOf 33 = .ok (.getfield 62, 3) := by decide +kernel
theorem dX4_weatherOf_36 : decode cX4_weatherOf 36 = .ok (.iconst 1, 1) := by decide +kernel
theorem dX4_weatherOf_37 : decode cX4_weatherOf 37 = .ok (.iadd, 1) := by decide +kernel
theorem dX4_weatherOf_38 : decode cX4_weatherOf 38 = .ok (.putfield 62, 3) := by decide +kernel
theorem dX4_weatherOf_41 : decode cX4_weatherOf 41 = .ok (.goto (-39), 3) := by decide +kernel
theorem dX4_weatherOf_44 : decode cX4_weatherOf 44 = .ok (.iload_n 2, 1) := by decide +kernel
theorem dX4_weatherOf_45 : decode cX4_weatherOf 45 = .ok (.ireturn, 1) := by decide +kernel
theorem dX4_cloudsOf_0 : decode cX4_cloudsOf 0 = .ok (.aload_n 0, 1) := by decide +kernel
theorem dX4_cloudsOf_1 : decode cX4_cloudsOf 1 = .ok (.invokevirtual 122, 3) := by decide +kernel
theorem dX4_cloudsOf_4 : decode cX4_cloudsOf 4 = .ok (.ldc2_w 126, 3) := by decide +kernel
theorem dX4_cloudsOf_7 : decode cX4_cloudsOf 7 = .ok (.lcmp, 1) := by decide +kernel
theorem dX4_cloudsOf_8 : decode cX4_cloudsOf 8 = .ok (.ifCond .ne 28, 3) := by decide +kernel
theorem dX4_cloudsOf_11 : decode cX4_cloudsOf 11 = .ok (.aload_n 0, 1) := by decide +kernel
theorem dX4_cloudsOf_12 : decode cX4_cloudsOf 12 = .ok (.getfield 22, 3) := by decide +kernel
theorem dX4_cloudsOf_15 : decode cX4_cloudsOf 15 = .ok (.bipush 10, 2) := by decide +kernel
theorem dX4_cloudsOf_17 : decode cX4_cloudsOf 17 = .ok (.iload_n 1, 1) := by decide +kernel
theorem dX4_cloudsOf_18 : decode cX4_cloudsOf 18 = .ok (.imul, 1) := by decide +kernel
theorem dX4_cloudsOf_19 : decode cX4_cloudsOf 19 = .ok (.bipush 9, 2) := by decide +kernel
theorem dX4_cloudsOf_21 : decode cX4_cloudsOf 21 = .ok (.iadd, 1) := by decide +kernel
theorem dX4_cloudsOf_22 : decode cX4_cloudsOf 22 = .ok (.iconst 0, 1) := by decide +kernel
theorem dX4_cloudsOf_23 : decode cX4_cloudsOf 23 = .ok (.iastore, 1) := by decide +kernel
theorem dX4_cloudsOf_24 : decode cX4_cloudsOf 24 = .ok (.aload_n 0, 1) := by decide +kernel
theorem dX4_cloudsOf_25 : decode cX4_cloudsOf 25 = .ok (.dup, 1) := by decide +kernel
theorem dX4_cloudsOf_26 : decode cX4_cloudsOf 26 = .ok (.getfield 62, 3) := by decide +kernel
theorem dX4_cloudsOf_29 : decode cX4_cloudsOf 29 = .ok (.iconst 1, 1) := by decide +kernel
theorem dX4_cloudsOf_30 : decode cX4_cloudsOf 30 = .ok (.iadd, 1) := by decide +kernel
theorem dX4_cloudsOf_31 : decode cX4_cloudsOf 31 = .ok (.putfield 62, 3) := by decide +kernel
theorem dX4_cloudsOf_34 : decode cX4_cloudsOf 34 = .ok (.iconst 1, 1) := by decide +kernel
theorem dX4_cloudsOf_35 : decode cX4_cloudsOf 35 = .ok (.ireturn, 1) := by decide +kernel
theorem dX4_cloudsOf_36 : decode cX4_cloudsOf 36 = .ok (.aload_n 0, 1) := by decide +kernel
theorem dX4_cloudsOf_37 : decode cX4_cloudsOf 37 = .ok (.invokevirtual 65, 3) := by decide +kernel
theorem dX4_cloudsOf_40 : decode cX4_cloudsOf 40 = .ok (.iconst 5, 1) := by decide +kernel
theorem dX4_cloudsOf_41 : decode cX4_cloudsOf 41 = .ok (.if_icmp .ne 67, 3) := by decide +kernel
theorem dX4_cloudsOf_44 : decode cX4_cloudsOf 44 = .ok (.aload_n 0, 1) := by decide +kernel
theorem dX4_cloudsOf_45 : decode cX4_cloudsOf 45 = .ok (.iconst 0, 1) := by decide +kernel
theorem dX4_cloudsOf_46 : decode cX4_cloudsOf 46 = .ok (.invokevirtual 106, 3) := by decide +kernel
theorem dX4_cloudsOf_49 : decode cX4_cloudsOf 49 = .ok (.sipush 22102, 3) := by decide +kernel
theorem dX4_cloudsOf_52 : decode cX4_cloudsOf 52 = .ok (.if_icmp .ne 56, 3) := by decide +kernel
theorem dX4_cloudsOf_55 : decode cX4_cloudsOf 55 = .ok (.aload_n 0, 1) := by decide +kernel
theorem dX4_cloudsOf_56 : decode cX4_cloudsOf 56 = .ok (.iconst 2, 1) := by decide +kernel
theorem dX4_cloudsOf_57 : decode cX4_cloudsOf 57 = .ok (.iconst 3, 1) := by decide +kernel
theorem dX4_cloudsOf_58 : decode cX4_cloudsOf 58 = .ok (.invokevirtual 76, 3) := by decide +kernel
theorem dX4_cloudsOf_61 : decode cX4_cloudsOf 61 = .ok (.ifCond .lt 47, 3) := by decide +kernel
theorem dX4_cloudsOf_64 : decode cX4_cloudsOf 64 = .ok (.aload_n 0, 1) := by decide +kernel
theorem dX4_cloudsOf_65 : decode cX4_cloudsOf 65 = .ok (.getfield 28, 3) := by decide +kernel
theorem dX4_cloudsOf_68 : decode cX4_cloudsOf 68 = .ok (.iconst 4, 1) := by decide +kernel
theorem dX4_cloudsOf_69 : decode cX4_cloudsOf 69 = .ok (.iload_n 1, 1) := by decide +kernel
theorem dX4_cloudsOf_70 : decode cX4_cloudsOf 70 = .ok (.imul, 1) := by decide +kernel
theorem dX4_cloudsOf_71 : decode cX4_cloudsOf 71 = .ok (.iconst 5, 1) := by decide +kernel
theorem dX4_cloudsOf_72 : decode cX4_cloudsOf 72 = .ok (.bipush 8, 2) := by decide +kernel
theorem dX4_cloudsOf_74 : decode cX4_cloudsOf 74 = .ok (.aload_n 0, 1) := by decide +kernel
theorem dX4_cloudsOf_75 : decode cX4_cloudsOf 75 = .ok (.iconst 2, 1) := by decide +kernel
theorem dX4_cloudsOf_76 : decode cX4_cloudsOf 76 = .ok (.iconst 3, 1) := by decide +kernel
theorem dX4_cloudsOf_77 : decode cX4_cloudsOf 77 = .ok (.invokevirtual 76, 3) := by decide +kernel
theorem dX4_cloudsOf_80 : decode cX4_cloudsOf 80 = .ok (.imul, 1) := by decide +kernel
theorem dX4_cloudsOf_81 : decode cX4_cloudsOf 81 = .ok (.iadd, 1) := by decide +kernel
theorem dX4_cloudsOf_82 : decode cX4_cloudsOf 82 = .ok (.iastore, 1) := by decide +kernel
theorem dX4_cloudsOf_83 : decode cX4_cloudsOf 83 = .ok (.aload_n 0, 1) := by decide +kernel
theorem dX4_cloudsOf_84 : decode cX4_cloudsOf 84 = .ok (.getfield 22, 3) := by decide +kernel
theorem dX4_cloudsOf_87 : decode cX4_cloudsOf 87 = .ok (.bipush 10, 2) := by decide +kernel
theorem dX4_cloudsOf_89 : decode cX4_cloudsOf 89 = .ok (.iload_n 1, 1) := by decide +kernel
theorem dX4_cloudsOf_90 : decode cX4_cloudsOf 90 = .ok (.imul, 1) := by decide +kernel
theorem dX4_cloudsOf_91 : decode cX4_cloudsOf 91 = .ok (.bipush 9, 2) := by decide +kernel
theorem dX4_cloudsOf_93 : decode cX4_cloudsOf 93 = .ok (.iadd, 1) := by decide +kernel
theorem dX4_cloudsOf_94 : decode cX4_cloudsOf 94 = .ok (.iconst 1, 1) := by decide +kernel
theorem dX4_cloudsOf_95 : decode cX4_cloudsOf 95 = .ok (.iastore, 1) := by decide +kernel
theorem dX4_cloudsOf_96 : decode cX4_cloudsOf 96 = .ok (.aload_n 0, 1) := by decide +kernel
theorem dX4_cloudsOf_97 : decode cX4_cloudsOf 97 = .ok (.dup, 1) := by decide +kernel
theorem dX4_cloudsOf_98 : decode cX4_cloudsOf 98 = .ok (.getfield 62, 3) := by decide +kernel
theorem dX4_cloudsOf_101 : decode cX4_cloudsOf 101 = .ok (.iconst 1, 1) := by decide +kernel
theorem dX4_cloudsOf_102 : decode cX4_cloudsOf 102 = .ok (.iadd, 1) := by decide +kernel
theorem dX4_cloudsOf_103 : decode cX4_cloudsOf 103 = .ok (.putfield 62, 3) := by decide +kernel
theorem dX4_cloudsOf_106 : decode cX4_cloudsOf 106 = .ok (.iconst 1, 1) := by decide +kernel
theorem dX4_cloudsOf_107 : decode cX4_cloudsOf 107 = .ok (.ireturn, 1) := by decide +kernel
theorem dX4_cloudsOf_108 : decode cX4_cloudsOf 108 = .ok (.iconst 0, 1) := by decide +kernel
theorem dX4_cloudsOf_109 : decode cX4_cloudsOf 109 = .ok (.istore_n 2, 1) := by decide +kernel
theorem dX4_cloudsOf_110 : decode cX4_cloudsOf 110 = .ok (.iconst 0, 1) := by decide +kernel
theorem dX4_cloudsOf_111 : decode cX4_cloudsOf 111 = .ok (.istore_n 3, 1) := by decide +kernel
theorem dX4_cloudsOf_112 : decode cX4_cloudsOf 112 = .ok (.iload_n 2, 1) := by decide +kernel
theorem dX4_cloudsOf_113 : decode cX4_cloudsOf 113 = .ok (.iconst 4, 1) := by decide +kernel
theorem dX4_cloudsOf_114 : decode cX4_cloudsOf 114 = .ok (.if_icmp .ge 67, 3) := by decide +kernel
theorem dX4_cloudsOf_117 : decode cX4_cloudsOf 117 = .ok (.aload_n 0, 1) := by decide +kernel
theorem dX4_cloudsOf_118 : decode cX4_cloudsOf 118 = .ok (.invokevirtual 128, 3) := by decide +kernel
theorem dX4_cloudsOf_121 : decode cX4_cloudsOf 121 = .ok (.ifCond .lt 60, 3) := by decide +kernel
theorem dX4_cloudsOf_124 : decode cX4_cloudsOf 124 = .ok (.aload_n 0, 1) := by decide +kernel
theorem dX4_cloudsOf_125 : decode cX4_cloudsOf 125 = .ok (.invokevirtual 128, 3) := by decide +kernel
theorem dX4_cloudsOf_128 : decode cX4_cloudsOf 128 = .ok (.sipush 8192, 3) := by decide +kernel
theorem dX4_cloudsOf_131 : decode cX4_cloudsOf 131 = .ok (.irem, 1) := by decide +kernel
theorem dX4_cloudsOf_132 : decode cX4_cloudsOf 132 = .ok (.bipush 8, 2) := by decide +kernel
theorem dX4_cloudsOf_134 : decode cX4_cloudsOf 134 = .ok (.idiv, 1) := by decide +kernel
theorem dX4_cloudsOf_135 : decode cX4_cloudsOf 135 = .ok (.iload_n 3, 1) := by decide +kernel
theorem dX4_cloudsOf_136 : decode cX4_cloudsOf 136 = .ok (.if_icmp .lt 45, 3) := by decide +kernel
theorem dX4_cloudsOf_139 : decode cX4_cloudsOf 139 = .ok (.aload_n 0, 1) := by decide +kernel
theorem dX4_cloudsOf_140 : decode cX4_cloudsOf 140 = .ok (.invokevirtual 128, 3) := by decide +kernel
theorem dX4_cloudsOf_143 : decode cX4_cloudsOf 143 = .ok (.sipush 8192, 3) := by decide +kernel
theorem dX4_cloudsOf_146 : decode cX4_cloudsOf 146 = .ok (.irem, 1) := by decide +kernel
theorem dX4_cloudsOf_147 : decode cX4_cloudsOf 147 = .ok (.bipush 8, 2) := by decide +kernel
theorem dX4_cloudsOf_149 : decode cX4_cloudsOf 149 = .ok (.idiv, 1) := by decide +kernel
theorem dX4_cloudsOf_150 : decode cX4_cloudsOf 150 = .ok (.istore_n 3, 1) := by decide +kernel
theorem dX4_cloudsOf_151 : decode cX4_cloudsOf 151 = .ok (.aload_n 0, 1) := by decide +kernel
theorem dX4_cloudsOf_152 : decode cX4_cloudsOf 152 = .ok (.getfield 28, 3) := by decide +kernel
theorem dX4_cloudsOf_155 : decode cX4_cloudsOf 155 = .ok (.iconst 4, 1) := by decide +kernel
theorem dX4_cloudsOf_156 : decode cX4_cloudsOf 156 = .ok (.iload_n 1, 1) := by decide +kernel
theorem dX4_cloudsOf_157 : decode cX4_cloudsOf 157 = .ok (.imul, 1) := by decide +kernel
theorem dX4_cloudsOf_158 : decode cX4_cloudsOf 158 = .ok (.iload_n 2, 1) := by decide +kernel
theorem dX4_cloudsOf_159 : decode cX4_cloudsOf 159 = .ok (.iadd, 1) := by decide +kernel
theorem dX4_cloudsOf_160 : decode cX4_cloudsOf 160 = .ok (.aload_n 0, 1) := by decide +kernel
theorem dX4_cloudsOf_161 : decode cX4_cloudsOf 161 = .ok (.invokevirtual 128, 3) := by decide +kernel
theorem dX4_cloudsOf_164 : decode cX4_cloudsOf 164 = .ok (.iastore, 1) := by decide +kernel
theorem dX4_cloudsOf_165 : decode cX4_cloudsOf 165 = .ok (.iinc 2 1, 3) := by decide +kernel
theorem dX4_cloudsOf_168 : decode cX4_cloudsOf 168 = .ok (.aload_n 0, 1) := by decide +kernel
theorem dX4_cloudsOf_169 : decode cX4_cloudsOf 169 = .ok (.dup, 1) := by decide +kernel
theorem dX4_cloudsOf_170 : decode cX4_cloudsOf 170 = .ok (.getfield 62, 3) := by decide +kernel
theorem dX4_cloudsOf_173 : decode cX4_cloudsOf 173 = .ok (.iconst 1, 1) := by decide +kernel
theorem dX4_cloudsOf_174 : decode cX4_cloudsOf 174 = .ok (.iadd, 1) := by decide +kernel
theorem dX4_cloudsOf_175 : decode cX4_cloudsOf 175 = .ok (.putfield 62, 3) := by decide +kernel
theorem dX4_cloudsOf_178 : decode cX4_cloudsOf 178 = .ok (.goto (-66), 3) := by decide +kernel
theorem dX4_cloudsOf_181 : decode cX4_cloudsOf 181 = .ok (.aload_n 0, 1) := by decide +kernel
theorem dX4_cloudsOf_182 : decode cX4_cloudsOf 182 = .ok (.getfield 22, 3) := by decide +kernel
theorem dX4_cloudsOf_185 : decode cX4_cloudsOf 185 = .ok (.bipush 10, 2) := by decide +kernel
theorem dX4_cloudsOf_187 : decode cX4_cloudsOf 187 = .ok (.iload_n 1, 1) := by decide +kernel
theorem dX4_cloudsOf_188 : decode cX4_cloudsOf 188 = .ok (.imul, 1) := by decide +kernel
theorem dX4_cloudsOf_189 : decode cX4_cloudsOf 189 = .ok (.bipush 9, 2) := by decide +kernel
theorem dX4_cloudsOf_191 : decode cX4_cloudsOf 191 = .ok (.iadd, 1) := by decide +kernel
theorem dX4_cloudsOf_192 : decode cX4_cloudsOf 192 = .ok (.iload_n 2, 1) := by decide +kernel
theorem dX4_cloudsOf_193 : decode cX4_cloudsOf 193 = .ok (.ifCond .le 7, 3) := by decide +kernel
theorem dX4_cloudsOf_196 : decode cX4_cloudsOf 196 = .ok (.iload_n 2, 1) := by decide +kernel
theorem dX4_cloudsOf_197 : decode cX4_cloudsOf 197 = .ok (.goto 4, 3) := by decide +kernel
theorem dX4_cloudsOf_200 : decode cX4_cloudsOf 200 = .ok (.iconst (-1), 1) := by decide +kernel
theorem dX4_cloudsOf_201 : decode cX4_cloudsOf 201 = .ok (.iastore, 1) := by decide +kernel
theorem dX4_cloudsOf_202 : decode cX4_cloudsOf 202 = .ok (.iload_n 2, 1) := by decide +kernel
theorem dX4_cloudsOf_203 : decode cX4_cloudsOf 203 = .ok (.ifCond .le 7, 3) := by decide +kernel
theorem dX4_cloudsOf_206 : decode cX4_cloudsOf 206 = .ok (.iconst 1, 1) := by decide +kernel
theorem dX4_cloudsOf_207 : decode cX4_cloudsOf 207 = .ok (.goto 4, 3) := by decide +kernel
theorem dX4_cloudsOf_210 : decode cX4_cloudsOf 210 = .ok (.iconst 0, 1) := by decide +kernel
theorem dX4_cloudsOf_211 : decode cX4_cloudsOf 211 = .ok (.ireturn, 1) := by decide +kernel
theorem dX4_clear_0 : decode cX4_clear 0 = .ok (.aload_n 0, 1) := by decide +kernel
theorem dX4_clear_1 : decode cX4_clear 1 = .ok (.invokevirtual 122, 3) := by decide +kernel
theorem dX4_clear_4 : decode cX4_clear 4 = .ok (.ldc2_w 131, 3) := by decide +kernel
theorem dX4_clear_7 : decode cX4_clear 7 = .ok (.lcmp, 1) := by decide +kernel
theorem dX4_clear_8 : decode cX4_clear 8 = .ok (.ifCond .eq 5, 3) := by decide +kernel
theorem dX4_clear_11 : decode cX4_clear 11 = .ok (.iconst 0, 1) := by decide +kernel
theorem dX4_clear_12 : decode cX4_clear 12 = .ok (.ireturn, 1) := by decide +kernel
theorem dX4_clear_13 : decode cX4_clear 13 = .ok (.aload_n 0, 1) := by decide +kernel
theorem dX4_clear_14 : decode cX4_clear 14 = .ok (.getfield 22, 3) := by decide +kernel
theorem dX4_clear_17 : decode cX4_clear 17 = .ok (.bipush 10, 2) := by decide +kernel
theorem dX4_clear_19 : decode cX4_clear 19 = .ok (.iload_n 1, 1) := by decide +kernel
theorem dX4_clear_20 : decode cX4_clear 20 = .ok (.imul, 1) := by decide +kernel
theorem dX4_clear_21 : decode cX4_clear 21 = .ok (.bipush 7, 2) := by decide +kernel
theorem dX4_clear_23 : decode cX4_clear 23 = .ok (.iadd, 1) := by decide +kernel
theorem dX4_clear_24 : decode cX4_clear 24 = .ok (.sipush 10000, 3) := by decide +kernel
theorem dX4_clear_27 : decode cX4_clear 27 = .ok (.iastore, 1) := by decide +kernel
theorem dX4_clear_28 : decode cX4_clear 28 = .ok (.aload_n 0, 1) := by decide +kernel
theorem dX4_clear_29 : decode cX4_clear 29 = .ok (.getfield 22, 3) := by decide +kernel
theorem dX4_clear_32 : decode cX4_clear 32 = .ok (.bipush 10, 2) := by decide +kernel
theorem dX4_clear_34 : decode cX4_clear 34 = .ok (.iload_n 1, 1) := by decide +kernel
theorem dX4_clear_35 : decode cX4_clear 35 = .ok (.imul, 1) := by decide +kernel
theorem dX4_clear_36 : decode cX4_clear 36 = .ok (.bipush 8, 2) := by decide +kernel
theorem dX4_clear_38 : decode cX4_clear 38 = .ok (.iadd, 1) := by decide +kernel
theorem dX4_clear_39 : decode cX4_clear 39 = .ok (.iconst 0, 1) := by decide +kernel
theorem dX4_clear_40 : decode cX4_clear 40 = .ok (.iastore, 1) := by decide +kernel
theorem dX4_clear_41 : decode cX4_clear 41 = .ok (.aload_n 0, 1) := by decide +kernel
theorem dX4_clear_42 : decode cX4_clear 42 = .ok (.getfield 22, 3) := by decide +kernel
theorem dX4_clear_45 : decode cX4_clear 45 = .ok (.bipush 10, 2) := by decide +kernel
theorem dX4_clear_47 : decode cX4_clear 47 = .ok (.iload_n 1, 1) := by decide +kernel
theorem dX4_clear_48 : decode cX4_clear 48 = .ok (.imul, 1) := by decide +kernel
theorem dX4_clear_49 : decode cX4_clear 49 = .ok (.bipush 9, 2) := by decide +kernel
theorem dX4_clear_51 : decode cX4_clear 51 = .ok (.iadd, 1) := by decide +kernel
theorem dX4_clear_52 : decode cX4_clear 52 = .ok (.iconst 0, 1) := by decide +kernel
theorem dX4_clear_53 : decode cX4_clear 53 = .ok (.iastore, 1) := by decide +kernel
theorem dX4_clear_54 : decode cX4_clear 54 = .ok (.aload_n 0, 1) := by decide +kernel
theorem dX4_clear_55 : decode cX4_clear 55 = .ok (.dup, 1) := by decide +kernel
theorem dX4_clear_56 : decode cX4_clear 56 = .ok (.getfield 62, 3) := by decide +kernel
theorem dX4_clear_59 : decode cX4_clear 59 = .ok (.iconst 1, 1) := by decide +kernel
theorem dX4_clear_60 : decode cX4_clear 60 = .ok (.iadd, 1) := by decide +kernel
theorem dX4_clear_61 : decode cX4_clear 61 = .ok (.putfield 62, 3) := by decide +kernel
theorem dX4_clear_64 : decode cX4_clear 64 = .ok (.iconst 1, 1) := by decide +kernel
theorem dX4_clear_65 : decode cX4_clear 65 = .ok (.ireturn, 1) := by decide +kernel
theorem dX4_sky_0 : decode cX4_sky 0 = .ok (.aload_n 0, 1) := by decide +kernel
theorem dX4_sky_1 : decode cX4_sky 1 = .ok (.iload_n 1, 1) := by decide +kernel
theorem dX4_sky_2 : decode cX4_sky 2 = .ok (.invokevirtual 133, 3) := by decide +kernel
theorem dX4_sky_5 : decode cX4_sky 5 = .ok (.ifCond .eq 5, 3) := by decide +kernel
theorem dX4_sky_8 : decode cX4_sky 8 = .ok (.iconst 1, 1) := by decide +kernel
theorem dX4_sky_9 : decode cX4_sky 9 = .ok (.ireturn, 1) := by decide +kernel
theorem dX4_sky_10 : decode cX4_sky 10 = .ok (.aload_n 0, 1) := by decide +kernel
theorem dX4_sky_11 : decode cX4_sky 11 = .ok (.iload_n 1, 1) := by decide +kernel
theorem dX4_sky_12 : decode cX4_sky 12 = .ok (.invokevirtual 136, 3) := by decide +kernel
theorem dX4_sky_15 : decode cX4_sky 15 = .ok (.ifCond .ne 5, 3) := by decide +kernel
theorem dX4_sky_18 : decode cX4_sky 18 = .ok (.iconst 0, 1) := by decide +kernel
theorem dX4_sky_19 : decode cX4_sky 19 = .ok (.ireturn, 1) := by decide +kernel
theorem dX4_sky_20 : decode cX4_sky 20 = .ok (.aload_n 0, 1) := by decide +kernel
theorem dX4_sky_21 : decode cX4_sky 21 = .ok (.getfield 22, 3) := by decide +kernel
theorem dX4_sky_24 : decode cX4_sky 24 = .ok (.bipush 10, 2) := by decide +kernel
theorem dX4_sky_26 : decode cX4_sky 26 = .ok (.iload_n 1, 1) := by decide +kernel
theorem dX4_sky_27 : decode cX4_sky 27 = .ok (.imul, 1) := by decide +kernel
theorem dX4_sky_28 : decode cX4_sky 28 = .ok (.bipush 8, 2) := by decide +kernel
theorem dX4_sky_30 : decode cX4_sky 30 = .ok (.iadd, 1) := by decide +kernel
theorem dX4_sky_31 : decode cX4_sky 31 = .ok (.aload_n 0, 1) := by decide +kernel
theorem dX4_sky_32 : decode cX4_sky 32 = .ok (.iload_n 1, 1) := by decide +kernel
theorem dX4_sky_33 : decode cX4_sky 33 = .ok (.invokevirtual 139, 3) := by decide +kernel
theorem dX4_sky_36 : decode cX4_sky 36 = .ok (.iastore, 1) := by decide +kernel
theorem dX4_sky_37 : decode cX4_sky 37 = .ok (.aload_n 0, 1) := by decide +kernel
theorem dX4_sky_38 : decode cX4_sky 38 = .ok (.iload_n 1, 1) := by decide +kernel
theorem dX4_sky_39 : decode cX4_sky 39 = .ok (.invokevirtual 142, 3) := by decide +kernel
theorem dX4_sky_42 : decode cX4_sky 42 = .ok (.ireturn, 1) := by decide +kernel
theorem dX4_parts_0 : decode cX4_parts 0 = .ok (.aload_n 0, 1) := by decide +kernel
theorem dX4_parts_1 : decode cX4_parts 1 = .ok (.iload_n 1, 1) := by decide +kernel
theorem dX4_parts_2 : decode cX4_parts 2 = .ok (.invokevirtual 145, 3) := by decide +kernel
theorem dX4_parts_5 : decode cX4_parts 5 = .ok (.istore_n 2, 1) := by decide +kernel
theorem dX4_parts_6 : decode cX4_parts 6 = .ok (.aload_n 0, 1) := by decide +kernel
theorem dX4_parts_7 : decode cX4_parts 7 = .ok (.iload_n 1, 1) := by decide +kernel
theorem dX4_parts_8 : decode cX4_parts 8 = .ok (.invokevirtual 133, 3) := by decide +kernel
theorem dX4_parts_11 : decode cX4_parts 11 = .ok (.ifCond .eq 5, 3) := by decide +kernel
theorem dX4_parts_14 : decode cX4_parts 14 = .ok (.iconst 1, 1) := by decide +kernel
theorem dX4_parts_15 : decode cX4_parts 15 = .ok (.ireturn, 1) := by decide +kernel
theorem dX4_parts_16 : decode cX4_parts 16 = .ok (.aload_n 0, 1) := by decide +kernel
theorem dX4_parts_17 : decode cX4_parts 17 = .ok (.iload_n 1, 1) := by decide +kernel
theorem dX4_parts_18 : decode cX4_parts 18 = .ok (.invokevirtual 136, 3) := by decide +kernel
theorem dX4_parts_21 : decode cX4_parts 21 = .ok (.ifCond .ne 7, 3) := by decide +kernel
theorem dX4_parts_24 : decode cX4_parts 24 = .ok (.iload_n 2, 1) := by decide +kernel
theorem dX4_parts_25 : decode cX4_parts 25 = .ok (.ifCond .eq 7, 3) := by decide +kernel
theorem dX4_parts_28 : decode cX4_parts 28 = .ok (.iconst 1, 1) := by decide +kernel
theorem dX4_parts_29 : decode cX4_parts 29 = .ok (.goto 4, 3) := by decide +kernel
theorem dX4_parts_32 : decode cX4_parts 32 = .ok (.iconst 0, 1) := by decide +kernel
theorem dX4_parts_33 : decode cX4_parts 33 = .ok (.istore_n 2, 1) := by decide +kernel
theorem dX4_parts_34 : decode cX4_parts 34 = .ok (.aload_n 0, 1) := by decide +kernel
theorem dX4_parts_35 : decode cX4_parts 35 = .ok (.invokevirtual 122, 3) := by decide +kernel
theorem dX4_parts_38 : decode cX4_parts 38 = .ok (.ldc2_w 148, 3) := by decide +kernel
theorem dX4_parts_41 : decode cX4_parts 41 = .ok (.lcmp, 1) := by decide +kernel
theorem dX4_parts_42 : decode cX4_parts 42 = .ok (.ifCond .ne 31, 3) := by decide +kernel
theorem dX4_parts_45 : decode cX4_parts 45 = .ok (.aload_n 0, 1) := by decide +kernel
theorem dX4_parts_46 : decode cX4_parts 46 = .ok (.getfield 22, 3) := by decide +kernel
theorem dX4_parts_49 : decode cX4_parts 49 = .ok (.bipush 10, 2) := by decide +kernel
theorem dX4_parts_51 : decode cX4_parts 51 = .ok (.iload_n 1, 1) := by decide +kernel
theorem dX4_parts_52 : decode cX4_parts 52 = .ok (.imul, 1) := by decide +kernel
theorem dX4_parts_53 : decode cX4_parts 53 = .ok (.bipush 8, 2) := by decide +kernel
theorem dX4_parts_55 : decode cX4_parts 55 = .ok (.iadd, 1) := by decide +kernel
theorem dX4_parts_56 : decode cX4_parts 56 = .ok (.iconst 0, 1) := by decide +kernel
theorem dX4_parts_57 : decode cX4_parts 57 = .ok (.iastore, 1) := by decide +kernel
theorem dX4_parts_58 : decode cX4_parts 58 = .ok (.iconst 1, 1) := by decide +kernel
theorem dX4_parts_59 : decode cX4_parts 59 = .ok (.istore_n 2, 1) := by decide +kernel
theorem dX4_parts_60 : decode cX4_parts 60 = .ok (.aload_n 0, 1) := by decide +kernel
theorem dX4_parts_61 : decode cX4_parts 61 = .ok (.dup, 1) := by decide +kernel
theorem dX4_parts_62 : decode cX4_parts 62 = .ok (.getfield 62, 3) := by decide +kernel
theorem dX4_parts_65 : decode cX4_parts 65 = .ok (.iconst 1, 1) := by decide +kernel
theorem dX4_parts_66 : decode cX4_parts 66 = .ok (.iadd, 1) := by decide +kernel
theorem dX4_parts_67 : decode cX4_parts 67 = .ok (.putfield 62, 3) := by decide +kernel
theorem dX4_parts_70 : decode cX4_parts 70 = .ok (.goto 44, 3) := by decide +kernel
theorem dX4_parts_73 : decode cX4_parts 73 = .ok (.aload_n 0, 1) := by decide +kernel
theorem dX4_parts_74 : decode cX4_parts 74 = .ok (.iload_n 1, 1) := by decide +kernel
theorem dX4_parts_75 : decode cX4_parts 75 = .ok (.invokevirtual 139, 3) := by decide +kernel
theorem dX4_parts_78 : decode cX4_parts 78 = .ok (.istore_n 3, 1) := by decide +kernel
theorem dX4_parts_79 : decode cX4_parts 79 = .ok (.aload_n 0, 1) := by decide +kernel
theorem dX4_parts_80 : decode cX4_parts 80 = .ok (.getfield 22, 3) := by decide +kernel
theorem dX4_parts_83 : decode cX4_parts 83 = .ok (.bipush 10, 2) := by decide +kernel
theorem dX4_parts_85 : decode cX4_parts 85 = .ok (.iload_n 1, 1) := by decide +kernel
theorem dX4_parts_86 : decode cX4_parts 86 = .ok (.imul, 1) := by decide +kernel
theorem dX4_parts_87 : decode cX4_parts 87 = .ok (.bipush 8, 2) := by decide +kernel
theorem dX4_parts_89 : decode cX4_parts 89 = .ok (.iadd, 1) := by decide +kernel
theorem dX4_parts_90 : decode cX4_parts 90 = .ok (.iload_n 3, 1) := by decide +kernel
theorem dX4_parts_91 : decode cX4_parts 91 = .ok (.ifCond .le 7, 3) := by decide +kernel
theorem dX4_parts_94 : decode cX4_parts 94 = .ok (.iload_n 3, 1) := by decide +kernel
theorem dX4_parts_95 : decode cX4_parts 95 = .ok (.goto 4, 3) := by decide +kernel
theorem dX4_parts_98 : decode cX4_parts 98 = .ok (.iconst (-1), 1) := by decide +kernel
theorem dX4_parts_99 : decode cX4_parts 99 = .ok (.iastore, 1) := by decide +kernel
theorem dX4_parts_100 : decode cX4_parts 100 = .ok (.iload_n 2, 1) := by decide +kernel
theorem dX4_parts_101 : decode cX4_parts 101 = .ok (.ifCond .ne 7, 3) := by decide +kernel
theorem dX4_parts_104 : decode cX4_parts 104 = .ok (.iload_n 3, 1) := by decide +kernel
theorem dX4_parts_105 : decode cX4_parts 105 = .ok (.ifCond .le 7, 3) := by decide +kernel
theorem dX4_parts_108 : decode cX4_parts 108 = .ok (.iconst 1, 1) := by decide +kernel
theorem dX4_parts_109 : decode cX4_parts 109 = .ok (.goto 4, 3) := by decide +kernel
theorem dX4_parts_112 : decode cX4_parts 112 = .ok (.iconst 0, 1) := by decide +kernel
theorem dX4_parts_113 : decode cX4_parts 113 = .ok (.istore_n 2, 1) := by decide +kernel
theorem dX4_parts_114 : decode cX4_parts 114 = .ok (.aload_n 0, 1) := by decide +kernel
theorem dX4_parts_115 : decode cX4_parts 115 = .ok (.iload_n 1, 1) := by decide +kernel
theorem dX4_parts_116 : decode cX4_parts 116 = .ok (.invokevirtual 142, 3) := by decide +kernel
theorem dX4_parts_119 : decode cX4_parts 119 = .ok (.ifCond .ne 7, 3) := by decide +kernel
theorem dX4_parts_122 : decode cX4_parts 122 = .ok (.iload_n 2, 1) := by decide +kernel
theorem dX4_parts_123 : decode cX4_parts 123 = .ok (.ifCond .eq 7, 3) := by decide +kernel
theorem dX4_parts_126 : decode cX4_parts 126 = .ok (.iconst 1, 1) := by decide +kernel
theorem dX4_parts_127 : decode cX4_parts 127 = .ok (.goto 4, 3) := by decide +kernel
theorem dX4_parts_130 : decode cX4_parts 130 = .ok (.iconst 0, 1) := by decide +kernel
theorem dX4_parts_131 : decode cX4_parts 131 = .ok (.ireturn, 1) := by decide +kernel
theorem dX4_isPeriod_0 : decode cX4_isPeriod 0 = .ok (.aload_n 0, 1) := by decide +kernel
theorem dX4_isPeriod_1 : decode cX4_isPeriod 1 = .ok (.invokevirtual 65, 3) := by decide +kernel
theorem dX4_isPeriod_4 : decode cX4_isPeriod 4 = .ok (.bipush 9, 2) := by decide +kernel
theorem dX4_isPeriod_6 : decode cX4_isPeriod 6 = .ok (.if_icmp .ne 74, 3) := by decide +kernel
theorem dX4_isPeriod_9 : decode cX4_isPeriod 9 = .ok (.aload_n 0, 1) := by decide +kernel
theorem dX4_isPeriod_10 : decode cX4_isPeriod 10 = .ok (.iconst 4, 1) := by decide +kernel
theorem dX4_isPeriod_11 : decode cX4_isPeriod 11 = .ok (.invokevirtual 69, 3) := by decide +kernel
theorem dX4_isPeriod_14 : decode cX4_isPeriod 14 = .ok (.bipush 47, 2) := by decide +kernel
theorem dX4_isPeriod_16 : decode cX4_isPeriod 16 = .ok (.if_icmp .ne 64, 3) := by decide +kernel
theorem dX4_isPeriod_19 : decode cX4_isPeriod 19 = .ok (.aload_n 0, 1) := by decide +kernel
theorem dX4_isPeriod_20 : decode cX4_isPeriod 20 = .ok (.aload_n 0, 1) := by decide +kernel
theorem dX4_isPeriod_21 : decode cX4_isPeriod 21 = .ok (.iconst 0, 1) := by decide +kernel
theorem dX4_isPeriod_22 : decode cX4_isPeriod 22 = .ok (.iconst 2, 1) := by decide +kernel
theorem dX4_isPeriod_23 : decode cX4_isPeriod 23 = .ok (.invokevirtual 76, 3) := by decide +kernel
theorem dX4_isPeriod_26 : decode cX4_isPeriod 26 = .ok (.invokevirtual 83, 3) := by decide +kernel
theorem dX4_isPeriod_29 : decode cX4_isPeriod 29 = .ok (.ifCond .eq 51, 3) := by decide +kernel
theorem dX4_isPeriod_32 : decode cX4_isPeriod 32 = .ok (.aload_n 0, 1) := by decide +kernel
theorem dX4_isPeriod_33 : decode cX4_isPeriod 33 = .ok (.aload_n 0, 1) := by decide +kernel
theorem dX4_isPeriod_34 : decode cX4_isPeriod 34 = .ok (.iconst 2, 1) := by decide +kernel
theorem dX4_isPeriod_35 : decode cX4_isPeriod 35 = .ok (.iconst 2, 1) := by decide +kernel
theorem dX4_isPeriod_36 : decode cX4_isPeriod 36 = .ok (.invokevirtual 76, 3) := by decide +kernel
theorem dX4_isPeriod_39 : decode cX4_isPeriod 39 = .ok (.bipush 23, 2) := by decide +kernel
theorem dX4_isPeriod_41 : decode cX4_isPeriod 41 = .ok (.invokevirtual 87, 3) := by decide +kernel
theorem dX4_isPeriod_44 : decode cX4_isPeriod 44 = .ok (.ifCond .eq 36, 3) := by decide +kernel
theorem dX4_isPeriod_47 : decode cX4_isPeriod 47 = .ok (.aload_n 0, 1) := by decide +kernel
theorem dX4_isPeriod_48 : decode cX4_isPeriod 48 = .ok (.aload_n 0, 1) := by decide +kernel
theorem dX4_isPeriod_49 : decode cX4_isPeriod 49 = .ok (.iconst 5, 1) := by decide +kernel
theorem dX4_isPeriod_50 : decode cX4_isPeriod 50 = .ok (.iconst 2, 1) := by decide +kernel
theorem dX4_isPeriod_51 : decode cX4_isPeriod 51 = .ok (.invokevirtual 76, 3) := by decide +kernel
theorem dX4_isPeriod_54 : decode cX4_isPeriod 54 = .ok (.invokevirtual 83, 3) := by decide +kernel
theorem dX4_isPeriod_57 : decode cX4_isPeriod 57 = .ok (.ifCond .eq 23, 3) := by decide +kernel
theorem dX4_isPeriod_60 : decode cX4_isPeriod 60 = .ok (.aload_n 0, 1) := by decide +kernel
theorem dX4_isPeriod_61 : decode cX4_isPeriod 61 = .ok (.aload_n 0, 1) := by decide +kernel
theorem dX4_isPeriod_62 : decode cX4_isPeriod 62 = .ok (.bipush 7, 2) := by decide +kernel
theorem dX4_isPeriod_64 : decode cX4_isPeriod 64 = .ok (.iconst 2, 1) := by decide +kernel
theorem dX4_isPeriod_65 : decode cX4_isPeriod 65 = .ok (.invokevirtual 76, 3) := by decide +kernel
theorem dX4_isPeriod_68 : decode cX4_isPeriod 68 = .ok (.bipush 24, 2) := by decide +kernel
theorem dX4_isPeriod_70 : decode cX4_isPeriod 70 = .ok (.invokevirtual 87, 3) := by decide +kernel
theorem dX4_isPeriod_73 : decode cX4_isPeriod 73 = .ok (.ifCond .eq 7, 3) := by decide +kernel
theorem dX4_isPeriod_76 : decode cX4_isPeriod 76 = .ok (.iconst 1, 1) := by decide +kernel
theorem dX4_isPeriod_77 : decode cX4_isPeriod 77 = .ok (.goto 4, 3) := by decide +kernel
theorem dX4_isPeriod_80 : decode cX4_isPeriod 80 = .ok (.iconst 0, 1) := by decide +kernel
theorem dX4_isPeriod_81 : decode cX4_isPeriod 81 = .ok (.ireturn, 1) := by decide +kernel
theorem dX4_period_0 : decode cX4_period 0 = .ok (.aload_n 0, 1) := by decide +kernel
theorem dX4_period_1 : decode cX4_period 1 = .ok (.invokevirtual 150, 3) := by decide +kernel
theorem dX4_period_4 : decode cX4_period 4 = .ok (.ifCond .ne 5, 3) := by decide +kernel
theorem dX4_period_7 : decode cX4_period 7 = .ok (.iconst 0, 1) := by decide +kernel
theorem dX4_period_8 : decode cX4_period 8 = .ok (.ireturn, 1) := by decide +kernel
theorem dX4_period_9 : decode cX4_period 9 = .ok (.sipush 1440, 3) := by decide +kernel
theorem dX4_period_12 : decode cX4_period 12 = .ok (.aload_n 0, 1) := by decide +kernel
theorem dX4_period_13 : decode cX4_period 13 = .ok (.iconst 0, 1) := by decide +kernel
theorem dX4_period_14 : decode cX4_period 14 = .ok (.iconst 2, 1) := by decide +kernel
theorem dX4_period_15 : decode cX4_period 15 = .ok (.invokevirtual 76, 3) := by decide +kernel
theorem dX4_period_18 : decode cX4_period 18 = .ok (.iconst 1, 1) := by decide +kernel
theorem dX4_period_19 : decode cX4_period 19 = .ok (.isub, 1) := by decide +kernel
theorem dX4_period_20 : decode cX4_period 20 = .ok (.imul, 1) := by decide +kernel
theorem dX4_period_21 : decode cX4_period 21 = .ok (.bipush 60, 2) := by decide +kernel
end
section
theorem dX4_period_23 : decode cX4_period 23 = .ok (.aload_n 0, 1) := by decide +kernel
theorem dX4_period_24 : decode cX4_period 24 = .ok (.iconst 2, 1) := by decide +kernel
theorem dX4_period_25 : decode cX4_period 25 = .ok (.iconst 2, 1) := by decide +kernel
theorem dX4_period_26 : decode cX4_period 26 = .ok (.invokevirtual 76, 3) := by decide +kernel
theorem dX4_period_29 : decode cX4_period 29 = .ok (.imul, 1) := by decide +kernel
theorem dX4_period_30 : decode cX4_period 30 = .ok (.iadd, 1) := by decide +kernel
theorem dX4_period_31 : decode cX4_period 31 = .ok (.istore_n 2, 1) := by decide +kernel
theorem dX4_period_32 : decode cX4_period 32 = .ok (.sipush 1440, 3) := by decide +kernel
theorem dX4_period_35 : decode cX4_period 35 = .ok (.aload_n 0, 1) := by decide +kernel
theorem dX4_period_36 : decode cX4_period 36 = .ok (.iconst 5, 1) := by decide +kernel
theorem dX4_period_37 : decode cX4_period 37 = .ok (.iconst 2, 1) := by decide +kernel
theorem dX4_period_38 : decode cX4_period 38 = .ok (.invokevirtual 76, 3) := by decide +kernel
theorem dX4_period_41 : decode cX4_period 41 = .ok (.iconst 1, 1) := by decide +kernel
theorem dX4_period_42 : decode cX4_period 42 = .ok (.isub, 1) := by decide +kernel
theorem dX4_period_43 : decode cX4_period 43 = .ok (.imul, 1) := by decide +kernel
theorem dX4_period_44 : decode cX4_period 44 = .ok (.bipush 60, 2) := by decide +kernel
theorem dX4_period_46 : decode cX4_period 46 = .ok (.aload_n 0, 1) := by decide +kernel
theorem dX4_period_47 : decode cX4_period 47 = .ok (.bipush 7, 2) := by decide +kernel
theorem dX4_period_49 : decode cX4_period 49 = .ok (.iconst 2, 1) := by decide +kernel
theorem dX4_period_50 : decode cX4_period 50 = .ok (.invokevirtual 76, 3) := by decide +kernel
theorem dX4_period_53 : decode cX4_period 53 = .ok (.imul, 1) := by decide +kernel
theorem dX4_period_54 : decode cX4_period 54 = .ok (.iadd, 1) := by decide +kernel
theorem dX4_period_55 : decode cX4_period 55 = .ok (.istore_n 3, 1) := by decide +kernel
theorem dX4_period_56 : decode cX4_period 56 = .ok (.iload_n 1, 1) := by decide +kernel
theorem dX4_period_57 : decode cX4_period 57 = .ok (.ifCond .ne 24, 3) := by decide +kernel
theorem dX4_period_60 : decode cX4_period 60 = .ok (.aload_n 0, 1) := by decide +kernel
theorem dX4_period_61 : decode cX4_period 61 = .ok (.iconst 0, 1) := by decide +kernel
theorem dX4_period_62 : decode cX4_period 62 = .ok (.iconst 2, 1) := by decide +kernel
theorem dX4_period_63 : decode cX4_period 63 = .ok (.invokevirtual 76, 3) := by decide +kernel
theorem dX4_period_66 : decode cX4_period 66 = .ok (.aload_n 0, 1) := by decide +kernel
theorem dX4_period_67 : decode cX4_period 67 = .ok (.getfield 80, 3) := by decide +kernel
theorem dX4_period_70 : decode cX4_period 70 = .ok (.if_icmp .ge 7, 3) := by decide +kernel
theorem dX4_period_73 : decode cX4_period 73 = .ok (.iconst 1, 1) := by decide +kernel
theorem dX4_period_74 : decode cX4_period 74 = .ok (.goto 22, 3) := by decide +kernel
theorem dX4_period_77 : decode cX4_period 77 = .ok (.iconst 0, 1) := by decide +kernel
theorem dX4_period_78 : decode cX4_period 78 = .ok (.goto 18, 3) := by decide +kernel
theorem dX4_period_81 : decode cX4_period 81 = .ok (.iload_n 2, 1) := by decide +kernel
theorem dX4_period_82 : decode cX4_period 82 = .ok (.aload_n 0, 1) := by decide +kernel
theorem dX4_period_83 : decode cX4_period 83 = .ok (.getfield 22, 3) := by decide +kernel
theorem dX4_period_86 : decode cX4_period 86 = .ok (.iconst 2, 1) := by decide +kernel
theorem dX4_period_87 : decode cX4_period 87 = .ok (.iaload, 1) := by decide +kernel
theorem dX4_period_88 : decode cX4_period 88 = .ok (.if_icmp .ge 7, 3) := by decide +kernel
theorem dX4_period_91 : decode cX4_period 91 = .ok (.iconst 1, 1) := by decide +kernel
theorem dX4_period_92 : decode cX4_period 92 = .ok (.goto 4, 3) := by decide +kernel
theorem dX4_period_95 : decode cX4_period 95 = .ok (.iconst 0, 1) := by decide +kernel
theorem dX4_period_96 : decode cX4_period 96 = .ok (.istore 4, 2) := by decide +kernel
theorem dX4_period_98 : decode cX4_period 98 = .ok (.iload 4, 2) := by decide +kernel
theorem dX4_period_100 : decode cX4_period 100 = .ok (.ifCond .eq 16, 3) := by decide +kernel
theorem dX4_period_103 : decode cX4_period 103 = .ok (.iload_n 2, 1) := by decide +kernel
theorem dX4_period_104 : decode cX4_period 104 = .ok (.sipush 1440, 3) := by decide +kernel
theorem dX4_period_107 : decode cX4_period 107 = .ok (.aload_n 0, 1) := by decide +kernel
theorem dX4_period_108 : decode cX4_period 108 = .ok (.getfield 73, 3) := by decide +kernel
theorem dX4_period_111 : decode cX4_period 111 = .ok (.imul, 1) := by decide +kernel
theorem dX4_period_112 : decode cX4_period 112 = .ok (.iadd, 1) := by decide +kernel
theorem dX4_period_113 : decode cX4_period 113 = .ok (.goto 4, 3) := by decide +kernel
theorem dX4_period_116 : decode cX4_period 116 = .ok (.iload_n 2, 1) := by decide +kernel
theorem dX4_period_117 : decode cX4_period 117 = .ok (.istore_n 2, 1) := by decide +kernel
theorem dX4_period_118 : decode cX4_period 118 = .ok (.iload 4, 2) := by decide +kernel
theorem dX4_period_120 : decode cX4_period 120 = .ok (.ifCond .ne 8, 3) := by decide +kernel
theorem dX4_period_123 : decode cX4_period 123 = .ok (.iload_n 3, 1) := by decide +kernel
theorem dX4_period_124 : decode cX4_period 124 = .ok (.iload_n 2, 1) := by decide +kernel
theorem dX4_period_125 : decode cX4_period 125 = .ok (.if_icmp .gt 16, 3) := by decide +kernel
theorem dX4_period_128 : decode cX4_period 128 = .ok (.iload_n 3, 1) := by decide +kernel
theorem dX4_period_129 : decode cX4_period 129 = .ok (.sipush 1440, 3) := by decide +kernel
theorem dX4_period_132 : decode cX4_period 132 = .ok (.aload_n 0, 1) := by decide +kernel
theorem dX4_period_133 : decode cX4_period 133 = .ok (.getfield 73, 3) := by decide +kernel
theorem dX4_period_136 : decode cX4_period 136 = .ok (.imul, 1) := by decide +kernel
theorem dX4_period_137 : decode cX4_period 137 = .ok (.iadd, 1) := by decide +kernel
theorem dX4_period_138 : decode cX4_period 138 = .ok (.goto 4, 3) := by decide +kernel
theorem dX4_period_141 : decode cX4_period 141 = .ok (.iload_n 3, 1) := by decide +kernel
theorem dX4_period_142 : decode cX4_period 142 = .ok (.istore_n 3, 1) := by decide +kernel
theorem dX4_period_143 : decode cX4_period 143 = .ok (.aload_n 0, 1) := by decide +kernel
theorem dX4_period_144 : decode cX4_period 144 = .ok (.getfield 22, 3) := by decide +kernel
theorem dX4_period_147 : decode cX4_period 147 = .ok (.bipush 10, 2) := by decide +kernel
theorem dX4_period_149 : decode cX4_period 149 = .ok (.iload_n 1, 1) := by decide +kernel
theorem dX4_period_150 : decode cX4_period 150 = .ok (.imul, 1) := by decide +kernel
theorem dX4_period_151 : decode cX4_period 151 = .ok (.iconst 2, 1) := by decide +kernel
theorem dX4_period_152 : decode cX4_period 152 = .ok (.iadd, 1) := by decide +kernel
theorem dX4_period_153 : decode cX4_period 153 = .ok (.iload_n 2, 1) := by decide +kernel
theorem dX4_period_154 : decode cX4_period 154 = .ok (.iastore, 1) := by decide +kernel
theorem dX4_period_155 : decode cX4_period 155 = .ok (.aload_n 0, 1) := by decide +kernel
theorem dX4_period_156 : decode cX4_period 156 = .ok (.getfield 22, 3) := by decide +kernel
theorem dX4_period_159 : decode cX4_period 159 = .ok (.bipush 10, 2) := by decide +kernel
theorem dX4_period_161 : decode cX4_period 161 = .ok (.iload_n 1, 1) := by decide +kernel
theorem dX4_period_162 : decode cX4_period 162 = .ok (.imul, 1) := by decide +kernel
theorem dX4_period_163 : decode cX4_period 163 = .ok (.iconst 3, 1) := by decide +kernel
theorem dX4_period_164 : decode cX4_period 164 = .ok (.iadd, 1) := by decide +kernel
theorem dX4_period_165 : decode cX4_period 165 = .ok (.iload_n 3, 1) := by decide +kernel
theorem dX4_period_166 : decode cX4_period 166 = .ok (.iastore, 1) := by decide +kernel
theorem dX4_period_167 : decode cX4_period 167 = .ok (.iload_n 3, 1) := by decide +kernel
theorem dX4_period_168 : decode cX4_period 168 = .ok (.iload_n 2, 1) := by decide +kernel
theorem dX4_period_169 : decode cX4_period 169 = .ok (.if_icmp .le 43, 3) := by decide +kernel
theorem dX4_period_172 : decode cX4_period 172 = .ok (.iload_n 1, 1) := by decide +kernel
theorem dX4_period_173 : decode cX4_period 173 = .ok (.ifCond .ne 15, 3) := by decide +kernel
theorem dX4_period_176 : decode cX4_period 176 = .ok (.iload_n 3, 1) := by decide +kernel
theorem dX4_period_177 : decode cX4_period 177 = .ok (.iload_n 2, 1) := by decide +kernel
theorem dX4_period_178 : decode cX4_period 178 = .ok (.isub, 1) := by decide +kernel
theorem dX4_period_179 : decode cX4_period 179 = .ok (.sipush 1800, 3) := by decide +kernel
theorem dX4_period_182 : decode cX4_period 182 = .ok (.if_icmp .gt 30, 3) := by decide +kernel
theorem dX4_period_185 : decode cX4_period 185 = .ok (.goto 23, 3) := by decide +kernel
theorem dX4_period_188 : decode cX4_period 188 = .ok (.iload_n 2, 1) := by decide +kernel
theorem dX4_period_189 : decode cX4_period 189 = .ok (.aload_n 0, 1) := by decide +kernel
theorem dX4_period_190 : decode cX4_period 190 = .ok (.getfield 22, 3) := by decide +kernel
theorem dX4_period_193 : decode cX4_period 193 = .ok (.iconst 2, 1) := by decide +kernel
theorem dX4_period_194 : decode cX4_period 194 = .ok (.iaload, 1) := by decide +kernel
theorem dX4_period_195 : decode cX4_period 195 = .ok (.if_icmp .lt 17, 3) := by decide +kernel
theorem dX4_period_198 : decode cX4_period 198 = .ok (.iload_n 3, 1) := by decide +kernel
theorem dX4_period_199 : decode cX4_period 199 = .ok (.aload_n 0, 1) := by decide +kernel
theorem dX4_period_200 : decode cX4_period 200 = .ok (.getfield 22, 3) := by decide +kernel
theorem dX4_period_203 : decode cX4_period 203 = .ok (.iconst 3, 1) := by decide +kernel
theorem dX4_period_204 : decode cX4_period 204 = .ok (.iaload, 1) := by decide +kernel
theorem dX4_period_205 : decode cX4_period 205 = .ok (.if_icmp .gt 7, 3) := by decide +kernel
theorem dX4_period_208 : decode cX4_period 208 = .ok (.iconst 1, 1) := by decide +kernel
theorem dX4_period_209 : decode cX4_period 209 = .ok (.goto 4, 3) := by decide +kernel
theorem dX4_period_212 : decode cX4_period 212 = .ok (.iconst 0, 1) := by decide +kernel
theorem dX4_period_213 : decode cX4_period 213 = .ok (.istore 5, 2) := by decide +kernel
theorem dX4_period_215 : decode cX4_period 215 = .ok (.aload_n 0, 1) := by decide +kernel
theorem dX4_period_216 : decode cX4_period 216 = .ok (.iload 5, 2) := by decide +kernel
theorem dX4_period_218 : decode cX4_period 218 = .ok (.ifCond .eq 12, 3) := by decide +kernel
theorem dX4_period_221 : decode cX4_period 221 = .ok (.aload_n 0, 1) := by decide +kernel
theorem dX4_period_222 : decode cX4_period 222 = .ok (.getfield 62, 3) := by decide +kernel
theorem dX4_period_225 : decode cX4_period 225 = .ok (.iconst 1, 1) := by decide +kernel
theorem dX4_period_226 : decode cX4_period 226 = .ok (.iadd, 1) := by decide +kernel
theorem dX4_period_227 : decode cX4_period 227 = .ok (.goto 7, 3) := by decide +kernel
theorem dX4_period_230 : decode cX4_period 230 = .ok (.aload_n 0, 1) := by decide +kernel
theorem dX4_period_231 : decode cX4_period 231 = .ok (.getfield 62, 3) := by decide +kernel
theorem dX4_period_234 : decode cX4_period 234 = .ok (.putfield 62, 3) := by decide +kernel
theorem dX4_period_237 : decode cX4_period 237 = .ok (.iload 5, 2) := by decide +kernel
theorem dX4_period_239 : decode cX4_period 239 = .ok (.ireturn, 1) := by decide +kernel
theorem dX4_since_0 : decode cX4_since 0 = .ok (.sipush 1440, 3) := by decide +kernel
theorem dX4_since_3 : decode cX4_since 3 = .ok (.aload_n 0, 1) := by decide +kernel
theorem dX4_since_4 : decode cX4_since 4 = .ok (.iconst 2, 1) := by decide +kernel
theorem dX4_since_5 : decode cX4_since 5 = .ok (.iconst 2, 1) := by decide +kernel
theorem dX4_since_6 : decode cX4_since 6 = .ok (.invokevirtual 76, 3) := by decide +kernel
theorem dX4_since_9 : decode cX4_since 9 = .ok (.iconst 1, 1) := by decide +kernel
theorem dX4_since_10 : decode cX4_since 10 = .ok (.isub, 1) := by decide +kernel
theorem dX4_since_11 : decode cX4_since 11 = .ok (.imul, 1) := by decide +kernel
theorem dX4_since_12 : decode cX4_since 12 = .ok (.bipush 60, 2) := by decide +kernel
theorem dX4_since_14 : decode cX4_since 14 = .ok (.aload_n 0, 1) := by decide +kernel
theorem dX4_since_15 : decode cX4_since 15 = .ok (.iconst 4, 1) := by decide +kernel
theorem dX4_since_16 : decode cX4_since 16 = .ok (.iconst 2, 1) := by decide +kernel
theorem dX4_since_17 : decode cX4_since 17 = .ok (.invokevirtual 76, 3) := by decide +kernel
theorem dX4_since_20 : decode cX4_since 20 = .ok (.imul, 1) := by decide +kernel
theorem dX4_since_21 : decode cX4_since 21 = .ok (.iadd, 1) := by decide +kernel
theorem dX4_since_22 : decode cX4_since 22 = .ok (.aload_n 0, 1) := by decide +kernel
theorem dX4_since_23 : decode cX4_since 23 = .ok (.bipush 6, 2) := by decide +kernel
theorem dX4_since_25 : decode cX4_since 25 = .ok (.iconst 2, 1) := by decide +kernel
theorem dX4_since_26 : decode cX4_since 26 = .ok (.invokevirtual 76, 3) := by decide +kernel
theorem dX4_since_29 : decode cX4_since 29 = .ok (.iadd, 1) := by decide +kernel
theorem dX4_since_30 : decode cX4_since 30 = .ok (.istore_n 3, 1) := by decide +kernel
theorem dX4_since_31 : decode cX4_since 31 = .ok (.aload_n 0, 1) := by decide +kernel
theorem dX4_since_32 : decode cX4_since 32 = .ok (.invokevirtual 65, 3) := by decide +kernel
theorem dX4_since_35 : decode cX4_since 35 = .ok (.bipush 8, 2) := by decide +kernel
theorem dX4_since_37 : decode cX4_since 37 = .ok (.if_icmp .ne 51, 3) := by decide +kernel
theorem dX4_since_40 : decode cX4_since 40 = .ok (.aload_n 0, 1) := by decide +kernel
theorem dX4_since_41 : decode cX4_since 41 = .ok (.aload_n 0, 1) := by decide +kernel
theorem dX4_since_42 : decode cX4_since 42 = .ok (.iconst 2, 1) := by decide +kernel
theorem dX4_since_43 : decode cX4_since 43 = .ok (.iconst 2, 1) := by decide +kernel
theorem dX4_since_44 : decode cX4_since 44 = .ok (.invokevirtual 76, 3) := by decide +kernel
theorem dX4_since_47 : decode cX4_since 47 = .ok (.invokevirtual 83, 3) := by decide +kernel
theorem dX4_since_50 : decode cX4_since 50 = .ok (.ifCond .eq 38, 3) := by decide +kernel
theorem dX4_since_53 : decode cX4_since 53 = .ok (.aload_n 0, 1) := by decide +kernel
theorem dX4_since_54 : decode cX4_since 54 = .ok (.aload_n 0, 1) := by decide +kernel
theorem dX4_since_55 : decode cX4_since 55 = .ok (.iconst 4, 1) := by decide +kernel
theorem dX4_since_56 : decode cX4_since 56 = .ok (.iconst 2, 1) := by decide +kernel
theorem dX4_since_57 : decode cX4_since 57 = .ok (.invokevirtual 76, 3) := by decide +kernel
theorem dX4_since_60 : decode cX4_since 60 = .ok (.bipush 23, 2) := by decide +kernel
theorem dX4_since_62 : decode cX4_since 62 = .ok (.invokevirtual 87, 3) := by decide +kernel
theorem dX4_since_65 : decode cX4_since 65 = .ok (.ifCond .eq 23, 3) := by decide +kernel
theorem dX4_since_68 : decode cX4_since 68 = .ok (.aload_n 0, 1) := by decide +kernel
theorem dX4_since_69 : decode cX4_since 69 = .ok (.aload_n 0, 1) := by decide +kernel
theorem dX4_since_70 : decode cX4_since 70 = .ok (.bipush 6, 2) := by decide +kernel
theorem dX4_since_72 : decode cX4_since 72 = .ok (.iconst 2, 1) := by decide +kernel
theorem dX4_since_73 : decode cX4_since 73 = .ok (.invokevirtual 76, 3) := by decide +kernel
theorem dX4_since_76 : decode cX4_since 76 = .ok (.bipush 59, 2) := by decide +kernel
theorem dX4_since_78 : decode cX4_since 78 = .ok (.invokevirtual 87, 3) := by decide +kernel
theorem dX4_since_81 : decode cX4_since 81 = .ok (.ifCond .eq 7, 3) := by decide +kernel
theorem dX4_since_84 : decode cX4_since 84 = .ok (.iconst 1, 1) := by decide +kernel
theorem dX4_since_85 : decode cX4_since 85 = .ok (.goto 4, 3) := by decide +kernel
theorem dX4_since_88 : decode cX4_since 88 = .ok (.iconst 0, 1) := by decide +kernel
theorem dX4_since_89 : decode cX4_since 89 = .ok (.istore 4, 2) := by decide +kernel
theorem dX4_since_91 : decode cX4_since 91 = .ok (.iload_n 3, 1) := by decide +kernel
theorem dX4_since_92 : decode cX4_since 92 = .ok (.aload_n 0, 1) := by decide +kernel
theorem dX4_since_93 : decode cX4_since 93 = .ok (.getfield 22, 3) := by decide +kernel
theorem dX4_since_96 : decode cX4_since 96 = .ok (.iconst 2, 1) := by decide +kernel
theorem dX4_since_97 : decode cX4_since 97 = .ok (.iaload, 1) := by decide +kernel
theorem dX4_since_98 : decode cX4_since 98 = .ok (.if_icmp .ge 16, 3) := by decide +kernel
theorem dX4_since_101 : decode cX4_since 101 = .ok (.iload_n 3, 1) := by decide +kernel
theorem dX4_since_102 : decode cX4_since 102 = .ok (.sipush 1440, 3) := by decide +kernel
theorem dX4_since_105 : decode cX4_since 105 = .ok (.aload_n 0, 1) := by decide +kernel
theorem dX4_since_106 : decode cX4_since 106 = .ok (.getfield 73, 3) := by decide +kernel
theorem dX4_since_109 : decode cX4_since 109 = .ok (.imul, 1) := by decide +kernel
theorem dX4_since_110 : decode cX4_since 110 = .ok (.iadd, 1) := by decide +kernel
theorem dX4_since_111 : decode cX4_since 111 = .ok (.goto 4, 3) := by decide +kernel
theorem dX4_since_114 : decode cX4_since 114 = .ok (.iload_n 3, 1) := by decide +kernel
theorem dX4_since_115 : decode cX4_since 115 = .ok (.istore_n 3, 1) := by decide +kernel
theorem dX4_since_116 : decode cX4_since 116 = .ok (.iload 4, 2) := by decide +kernel
theorem dX4_since_118 : decode cX4_since 118 = .ok (.ifCond .eq 32, 3) := by decide +kernel
theorem dX4_since_121 : decode cX4_since 121 = .ok (.iload_n 3, 1) := by decide +kernel
theorem dX4_since_122 : decode cX4_since 122 = .ok (.aload_n 0, 1) := by decide +kernel
theorem dX4_since_123 : decode cX4_since 123 = .ok (.getfield 22, 3) := by decide +kernel
theorem dX4_since_126 : decode cX4_since 126 = .ok (.iconst 2, 1) := by decide +kernel
theorem dX4_since_127 : decode cX4_since 127 = .ok (.iaload, 1) := by decide +kernel
theorem dX4_since_128 : decode cX4_since 128 = .ok (.if_icmp .lt 22, 3) := by decide +kernel
theorem dX4_since_131 : decode cX4_since 131 = .ok (.iload_n 3, 1) := by decide +kernel
theorem dX4_since_132 : decode cX4_since 132 = .ok (.aload_n 0, 1) := by decide +kernel
theorem dX4_since_133 : decode cX4_since 133 = .ok (.getfield 22, 3) := by decide +kernel
theorem dX4_since_136 : decode cX4_since 136 = .ok (.iconst 3, 1) := by decide +kernel
theorem dX4_since_137 : decode cX4_since 137 = .ok (.iaload, 1) := by decide +kernel
theorem dX4_since_138 : decode cX4_since 138 = .ok (.if_icmp .ge 12, 3) := by decide +kernel
theorem dX4_since_141 : decode cX4_since 141 = .ok (.iload_n 3, 1) := by decide +kernel
theorem dX4_since_142 : decode cX4_since 142 = .ok (.iload_n 2, 1) := by decide +kernel
theorem dX4_since_143 : decode cX4_since 143 = .ok (.if_icmp .le 7, 3) := by decide +kernel
theorem dX4_since_146 : decode cX4_since 146 = .ok (.iconst 1, 1) := by decide +kernel
theorem dX4_since_147 : decode cX4_since 147 = .ok (.goto 4, 3) := by decide +kernel
theorem dX4_since_150 : decode cX4_since 150 = .ok (.iconst 0, 1) := by decide +kernel
theorem dX4_since_151 : decode cX4_since 151 = .ok (.istore 4, 2) := by decide +kernel
theorem dX4_since_153 : decode cX4_since 153 = .ok (.aload_n 0, 1) := by decide +kernel
theorem dX4_since_154 : decode cX4_since 154 = .ok (.getfield 22, 3) := by decide +kernel
theorem dX4_since_157 : decode cX4_since 157 = .ok (.bipush 10, 2) := by decide +kernel
theorem dX4_since_159 : decode cX4_since 159 = .ok (.iload_n 1, 1) := by decide +kernel
theorem dX4_since_160 : decode cX4_since 160 = .ok (.imul, 1) := by decide +kernel
theorem dX4_since_161 : decode cX4_since 161 = .ok (.iconst 2, 1) := by decide +kernel
theorem dX4_since_162 : decode cX4_since 162 = .ok (.iadd, 1) := by decide +kernel
theorem dX4_since_163 : decode cX4_since 163 = .ok (.iload_n 3, 1) := by decide +kernel
theorem dX4_since_164 : decode cX4_since 164 = .ok (.iastore, 1) := by decide +kernel
theorem dX4_since_165 : decode cX4_since 165 = .ok (.aload_n 0, 1) := by decide +kernel
theorem dX4_since_166 : decode cX4_since 166 = .ok (.getfield 22, 3) := by decide +kernel
theorem dX4_since_169 : decode cX4_since 169 = .ok (.bipush 10, 2) := by decide +kernel
theorem dX4_since_171 : decode cX4_since 171 = .ok (.iload_n 1, 1) := by decide +kernel
theorem dX4_since_172 : decode cX4_since 172 = .ok (.imul, 1) := by decide +kernel
theorem dX4_since_173 : decode cX4_since 173 = .ok (.iconst 3, 1) := by decide +kernel
theorem dX4_since_174 : decode cX4_since 174 = .ok (.iadd, 1) := by decide +kernel
theorem dX4_since_175 : decode cX4_since 175 = .ok (.aload_n 0, 1) := by decide +kernel
theorem dX4_since_176 : decode cX4_since 176 = .ok (.getfield 22, 3) := by decide +kernel
theorem dX4_since_179 : decode cX4_since 179 = .ok (.iconst 3, 1) := by decide +kernel
theorem dX4_since_180 : decode cX4_since 180 = .ok (.iaload, 1) := by decide +kernel
theorem dX4_since_181 : decode cX4_since 181 = .ok (.iastore, 1) := by decide +kernel
theorem dX4_since_182 : decode cX4_since 182 = .ok (.aload_n 0, 1) := by decide +kernel
theorem dX4_since_183 : decode cX4_since 183 = .ok (.iload 4, 2) := by decide +kernel
theorem dX4_since_185 : decode cX4_since 185 = .ok (.ifCond .eq 12, 3) := by decide +kernel
theorem dX4_since_188 : decode cX4_since 188 = .ok (.aload_n 0, 1) := by decide +kernel
theorem dX4_since_189 : decode cX4_since 189 = .ok (.getfield 62, 3) := by decide +kernel
theorem dX4_since_192 : decode cX4_since 192 = .ok (.iconst 1, 1) := by decide +kernel
theorem dX4_since_193 : decode cX4_since 193 = .ok (.iadd, 1) := by decide +kernel
theorem dX4_since_194 : decode cX4_since 194 = .ok (.goto 7, 3) := by decide +kernel
theorem dX4_since_197 : decode cX4_since 197 = .ok (.aload_n 0, 1) := by decide +kernel
theorem dX4_since_198 : decode cX4_since 198 = .ok (.getfield 62, 3) := by decide +kernel
theorem dX4_since_201 : decode cX4_since 201 = .ok (.putfield 62, 3) := by decide +kernel
theorem dX4_since_204 : decode cX4_since 204 = .ok (.iload 4, 2) := by decide +kernel
theorem dX4_since_206 : decode cX4_since 206 = .ok (.ireturn, 1) := by decide +kernel
theorem dX4_blank_0 : decode cX4_blank 0 = .ok (.iconst 0, 1) := by decide +kernel
theorem dX4_blank_1 : decode cX4_blank 1 = .ok (.istore_n 1, 1) := by decide +kernel
theorem dX4_blank_2 : decode cX4_blank 2 = .ok (.iload_n 1, 1) := by decide +kernel
theorem dX4_blank_3 : decode cX4_blank 3 = .ok (.bipush 90, 2) := by decide +kernel
theorem dX4_blank_5 : decode cX4_blank 5 = .ok (.if_icmp .ge 28, 3) := by decide +kernel
theorem dX4_blank_8 : decode cX4_blank 8 = .ok (.aload_n 0, 1) := by decide +kernel
theorem dX4_blank_9 : decode cX4_blank 9 = .ok (.getfield 22, 3) := by decide +kernel
theorem dX4_blank_12 : decode cX4_blank 12 = .ok (.iload_n 1, 1) := by decide +kernel
theorem dX4_blank_13 : decode cX4_blank 13 = .ok (.iload_n 1, 1) := by decide +kernel
theorem dX4_blank_14 : decode cX4_blank 14 = .ok (.bipush 10, 2) := by decide +kernel
theorem dX4_blank_16 : decode cX4_blank 16 = .ok (.irem, 1) := by decide +kernel
theorem dX4_blank_17 : decode cX4_blank 17 = .ok (.iconst 2, 1) := by decide +kernel
theorem dX4_blank_18 : decode cX4_blank 18 = .ok (.if_icmp .ge 7, 3) := by decide +kernel
theorem dX4_blank_21 : decode cX4_blank 21 = .ok (.iconst 0, 1) := by decide +kernel
theorem dX4_blank_22 : decode cX4_blank 22 = .ok (.goto 4, 3) := by decide +kernel
theorem dX4_blank_25 : decode cX4_blank 25 = .ok (.iconst (-1), 1) := by decide +kernel
theorem dX4_blank_26 : decode cX4_blank 26 = .ok (.iastore, 1) := by decide +kernel
theorem dX4_blank_27 : decode cX4_blank 27 = .ok (.iinc 1 1, 3) := by decide +kernel
theorem dX4_blank_30 : decode cX4_blank 30 = .ok (.goto (-28), 3) := by decide +kernel
theorem dX4_blank_33 : decode cX4_blank 33 = .ok (.return_, 1) := by decide +kernel
theorem dX4_change_0 : decode cX4_change 0 = .ok (.aload_n 0, 1) := by decide +kernel
theorem dX4_change_1 : decode cX4_change 1 = .ok (.invokevirtual 122, 3) := by decide +kernel
theorem dX4_change_4 : decode cX4_change 4 = .ok (.lstore_n 3, 1) := by decide +kernel
theorem dX4_change_5 : decode cX4_change 5 = .ok (.aload_n 0, 1) := by decide +kernel
theorem dX4_change_6 : decode cX4_change 6 = .ok (.iconst 0, 1) := by decide +kernel
theorem dX4_change_7 : decode cX4_change 7 = .ok (.invokevirtual 106, 3) := by decide +kernel
theorem dX4_change_10 : decode cX4_change 10 = .ok (.sipush 17997, 3) := by decide +kernel
theorem dX4_change_13 : decode cX4_change 13 = .ok (.if_icmp .ne 44, 3) := by decide +kernel
theorem dX4_change_16 : decode cX4_change 16 = .ok (.aload_n 0, 1) := by decide +kernel
theorem dX4_change_17 : decode cX4_change 17 = .ok (.getfield 22, 3) := by decide +kernel
theorem dX4_change_20 : decode cX4_change 20 = .ok (.bipush 10, 2) := by decide +kernel
theorem dX4_change_22 : decode cX4_change 22 = .ok (.iload_n 1, 1) := by decide +kernel
theorem dX4_change_23 : decode cX4_change 23 = .ok (.imul, 1) := by decide +kernel
theorem dX4_change_24 : decode cX4_change 24 = .ok (.iconst 1, 1) := by decide +kernel
theorem dX4_change_25 : decode cX4_change 25 = .ok (.iastore, 1) := by decide +kernel
theorem dX4_change_26 : decode cX4_change 26 = .ok (.aload_n 0, 1) := by decide +kernel
theorem dX4_change_27 : decode cX4_change 27 = .ok (.iload_n 1, 1) := by decide +kernel
theorem dX4_change_28 : decode cX4_change 28 = .ok (.iload_n 2, 1) := by decide +kernel
theorem dX4_change_29 : decode cX4_change 29 = .ok (.invokevirtual 154, 3) := by decide +kernel
theorem dX4_change_32 : decode cX4_change 32 = .ok (.ifCond .eq 23, 3) := by decide +kernel
theorem dX4_change_35 : decode cX4_change 35 = .ok (.aload_n 0, 1) := by decide +kernel
theorem dX4_change_36 : decode cX4_change 36 = .ok (.iload_n 1, 1) := by decide +kernel
theorem dX4_change_37 : decode cX4_change 37 = .ok (.invokevirtual 145, 3) := by decide +kernel
theorem dX4_change_40 : decode cX4_change 40 = .ok (.ifCond .eq 15, 3) := by decide +kernel
theorem dX4_change_43 : decode cX4_change 43 = .ok (.aload_n 0, 1) := by decide +kernel
theorem dX4_change_44 : decode cX4_change 44 = .ok (.iload_n 1, 1) := by decide +kernel
theorem dX4_change_45 : decode cX4_change 45 = .ok (.invokevirtual 157, 3) := by decide +kernel
theorem dX4_change_48 : decode cX4_change 48 = .ok (.ifCond .eq 7, 3) := by decide +kernel
theorem dX4_change_51 : decode cX4_change 51 = .ok (.iconst 1, 1) := by decide +kernel
theorem dX4_change_52 : decode cX4_change 52 = .ok (.goto 4, 3) := by decide +kernel
theorem dX4_change_55 : decode cX4_change 55 = .ok (.iconst 0, 1) := by decide +kernel
theorem dX4_change_56 : decode cX4_change 56 = .ok (.ireturn, 1) := by decide +kernel
theorem dX4_change_57 : decode cX4_change 57 = .ok (.lload_n 3, 1) := by decide +kernel
theorem dX4_change_58 : decode cX4_change 58 = .ok (.ldc2_w 160, 3) := by decide +kernel
theorem dX4_change_61 : decode cX4_change 61 = .ok (.lcmp, 1) := by decide +kernel
theorem dX4_change_62 : decode cX4_change 62 = .ok (.ifCond .ne 8, 3) := by decide +kernel
theorem dX4_change_65 : decode cX4_change 65 = .ok (.bipush 30, 2) := by decide +kernel
theorem dX4_change_67 : decode cX4_change 67 = .ok (.goto 17, 3) := by decide +kernel
theorem dX4_change_70 : decode cX4_change 70 = .ok (.lload_n 3, 1) := by decide +kernel
theorem dX4_change_71 : decode cX4_change 71 = .ok (.ldc2_w 162, 3) := by decide +kernel
theorem dX4_change_74 : decode cX4_change 74 = .ok (.lcmp, 1) := by decide +kernel
theorem dX4_change_75 : decode cX4_change 75 = .ok (.ifCond .ne 8, 3) := by decide +kernel
theorem dX4_change_78 : decode cX4_change 78 = .ok (.bipush 40, 2) := by decide +kernel
theorem dX4_change_80 : decode cX4_change 80 = .ok (.goto 4, 3) := by decide +kernel
theorem dX4_change_83 : decode cX4_change 83 = .ok (.iconst 0, 1) := by decide +kernel
theorem dX4_change_84 : decode cX4_change 84 = .ok (.istore 5, 2) := by decide +kernel
theorem dX4_change_86 : decode cX4_change 86 = .ok (.aload_n 0, 1) := by decide +kernel
theorem dX4_change_87 : decode cX4_change 87 = .ok (.getfield 22, 3) := by decide +kernel
theorem dX4_change_90 : decode cX4_change 90 = .ok (.bipush 10, 2) := by decide +kernel
theorem dX4_change_92 : decode cX4_change 92 = .ok (.iload_n 1, 1) := by decide +kernel
theorem dX4_change_93 : decode cX4_change 93 = .ok (.imul, 1) := by decide +kernel
theorem dX4_change_94 : decode cX4_change 94 = .ok (.iconst 1, 1) := by decide +kernel
theorem dX4_change_95 : decode cX4_change 95 = .ok (.iadd, 1) := by decide +kernel
theorem dX4_change_96 : decode cX4_change 96 = .ok (.iload 5, 2) := by decide +kernel
theorem dX4_change_98 : decode cX4_change 98 = .ok (.iastore, 1) := by decide +kernel
theorem dX4_change_99 : decode cX4_change 99 = .ok (.aload_n 0, 1) := by decide +kernel
theorem dX4_change_100 : decode cX4_change 100 = .ok (.getfield 22, 3) := by decide +kernel
theorem dX4_change_103 : decode cX4_change 103 = .ok (.bipush 10, 2) := by decide +kernel
theorem dX4_change_105 : decode cX4_change 105 = .ok (.iload_n 1, 1) := by decide +kernel
theorem dX4_change_106 : decode cX4_change 106 = .ok (.imul, 1) := by decide +kernel
theorem dX4_change_107 : decode cX4_change 107 = .ok (.lload_n 3, 1) := by decide +kernel
theorem dX4_change_108 : decode cX4_change 108 = .ok (.ldc2_w 164, 3) := by decide +kernel
theorem dX4_change_111 : decode cX4_change 111 = .ok (.lcmp, 1) := by decide +kernel
theorem dX4_change_112 : decode cX4_change 112 = .ok (.ifCond .ne 7, 3) := by decide +kernel
theorem dX4_change_115 : decode cX4_change 115 = .ok (.iconst 2, 1) := by decide +kernel
theorem dX4_change_116 : decode cX4_change 116 = .ok (.goto 25, 3) := by decide +kernel
theorem dX4_change_119 : decode cX4_change 119 = .ok (.lload_n 3, 1) := by decide +kernel
theorem dX4_change_120 : decode cX4_change 120 = .ok (.ldc2_w 166, 3) := by decide +kernel
theorem dX4_change_123 : decode cX4_change 123 = .ok (.lcmp, 1) := by decide +kernel
theorem dX4_change_124 : decode cX4_change 124 = .ok (.ifCond .ne 7, 3) := by decide +kernel
theorem dX4_change_127 : decode cX4_change 127 = .ok (.iconst 3, 1) := by decide +kernel
theorem dX4_change_128 : decode cX4_change 128 = .ok (.goto 13, 3) := by decide +kernel
theorem dX4_change_131 : decode cX4_change 131 = .ok (.iload 5, 2) := by decide +kernel
theorem dX4_change_133 : decode cX4_change 133 = .ok (.ifCond .le 7, 3) := by decide +kernel
theorem dX4_change_136 : decode cX4_change 136 = .ok (.iconst 4, 1) := by decide +kernel
theorem dX4_change_137 : decode cX4_change 137 = .ok (.goto 4, 3) := by decide +kernel
theorem dX4_change_140 : decode cX4_change 140 = .ok (.iconst 0, 1) := by decide +kernel
theorem dX4_change_141 : decode cX4_change 141 = .ok (.iastore, 1) := by decide +kernel
theorem dX4_change_142 : decode cX4_change 142 = .ok (.aload_n 0, 1) := by decide +kernel
theorem dX4_change_143 : decode cX4_change 143 = .ok (.getfield 22, 3) := by decide +kernel
theorem dX4_change_146 : decode cX4_change 146 = .ok (.bipush 10, 2) := by decide +kernel
theorem dX4_change_148 : decode cX4_change 148 = .ok (.iload_n 1, 1) := by decide +kernel
theorem dX4_change_149 : decode cX4_change 149 = .ok (.imul, 1) := by decide +kernel
theorem dX4_change_150 : decode cX4_change 150 = .ok (.iaload, 1) := by decide +kernel
theorem dX4_change_151 : decode cX4_change 151 = .ok (.ifCond .ne 5, 3) := by decide +kernel
theorem dX4_change_154 : decode cX4_change 154 = .ok (.iconst 0, 1) := by decide +kernel
theorem dX4_change_155 : decode cX4_change 155 = .ok (.ireturn, 1) := by decide +kernel
theorem dX4_change_156 : decode cX4_change 156 = .ok (.aload_n 0, 1) := by decide +kernel
theorem dX4_change_157 : decode cX4_change 157 = .ok (.dup, 1) := by decide +kernel
theorem dX4_change_158 : decode cX4_change 158 = .ok (.getfield 62, 3) := by decide +kernel
theorem dX4_change_161 : decode cX4_change 161 = .ok (.iconst 1, 1) := by decide +kernel
theorem dX4_change_162 : decode cX4_change 162 = .ok (.iadd, 1) := by decide +kernel
theorem dX4_change_163 : decode cX4_change 163 = .ok (.putfield 62, 3) := by decide +kernel
theorem dX4_change_166 : decode cX4_change 166 = .ok (.iload 5, 2) := by decide +kernel
theorem dX4_change_168 : decode cX4_change 168 = .ok (.ifCond .le 34, 3) := by decide +kernel
theorem dX4_change_171 : decode cX4_change 171 = .ok (.aload_n 0, 1) := by decide +kernel
theorem dX4_change_172 : decode cX4_change 172 = .ok (.invokevirtual 122, 3) := by decide +kernel
theorem dX4_change_175 : decode cX4_change 175 = .ok (.ldc2_w 166, 3) := by decide +kernel
theorem dX4_change_178 : decode cX4_change 178 = .ok (.lcmp, 1) := by decide +kernel
theorem dX4_change_179 : decode cX4_change 179 = .ok (.ifCond .ne 23, 3) := by decide +kernel
theorem dX4_change_182 : decode cX4_change 182 = .ok (.aload_n 0, 1) := by decide +kernel
theorem dX4_change_183 : decode cX4_change 183 = .ok (.getfield 22, 3) := by decide +kernel
theorem dX4_change_186 : decode cX4_change 186 = .ok (.bipush 10, 2) := by decide +kernel
theorem dX4_change_188 : decode cX4_change 188 = .ok (.iload_n 1, 1) := by decide +kernel
theorem dX4_change_189 : decode cX4_change 189 = .ok (.imul, 1) := by decide +kernel
theorem dX4_change_190 : decode cX4_change 190 = .ok (.iconst 5, 1) := by decide +kernel
theorem dX4_change_191 : decode cX4_change 191 = .ok (.iastore, 1) := by decide +kernel
theorem dX4_change_192 : decode cX4_change 192 = .ok (.aload_n 0, 1) := by decide +kernel
theorem dX4_change_193 : decode cX4_change 193 = .ok (.dup, 1) := by decide +kernel
theorem dX4_change_194 : decode cX4_change 194 = .ok (.getfield 62, 3) := by decide +kernel
theorem dX4_change_197 : decode cX4_change 197 = .ok (.iconst 1, 1) := by decide +kernel
theorem dX4_change_198 : decode cX4_change 198 = .ok (.iadd, 1) := by decide +kernel
theorem dX4_change_199 : decode cX4_change 199 = .ok (.putfield 62, 3) := by decide +kernel
theorem dX4_change_202 : decode cX4_change 202 = .ok (.aload_n 0, 1) := by decide +kernel
theorem dX4_change_203 : decode cX4_change 203 = .ok (.iload_n 1, 1) := by decide +kernel
theorem dX4_change_204 : decode cX4_change 204 = .ok (.invokevirtual 168, 3) := by decide +kernel
theorem dX4_change_207 : decode cX4_change 207 = .ok (.ifCond .eq 15, 3) := by decide +kernel
theorem dX4_change_210 : decode cX4_change 210 = .ok (.aload_n 0, 1) := by decide +kernel
theorem dX4_change_211 : decode cX4_change 211 = .ok (.iload_n 1, 1) := by decide +kernel
theorem dX4_change_212 : decode cX4_change 212 = .ok (.invokevirtual 171, 3) := by decide +kernel
theorem dX4_change_215 : decode cX4_change 215 = .ok (.ifCond .eq 7, 3) := by decide +kernel
theorem dX4_change_218 : decode cX4_change 218 = .ok (.iconst 1, 1) := by decide +kernel
theorem dX4_change_219 : decode cX4_change 219 = .ok (.goto 4, 3) := by decide +kernel
theorem dX4_change_222 : decode cX4_change 222 = .ok (.iconst 0, 1) := by decide +kernel
theorem dX4_change_223 : decode cX4_change 223 = .ok (.ireturn, 1) := by decide +kernel
theorem dX4_forecast_0 : decode cX4_forecast 0 = .ok (.aload_n 0, 1) := by decide +kernel
theorem dX4_forecast_1 : decode cX4_forecast 1 = .ok (.iconst 2, 1) := by decide +kernel
theorem dX4_forecast_2 : decode cX4_forecast 2 = .ok (.putfield 174, 3) := by decide +kernel
theorem dX4_forecast_5 : decode cX4_forecast 5 = .ok (.aload_n 0, 1) := by decide +kernel
theorem dX4_forecast_6 : decode cX4_forecast 6 = .ok (.invokevirtual 177, 3) := by decide +kernel
theorem dX4_forecast_9 : decode cX4_forecast 9 = .ok (.ifCond .eq 34, 3) := by decide +kernel
theorem dX4_forecast_12 : decode cX4_forecast 12 = .ok (.aload_n 0, 1) := by decide +kernel
theorem dX4_forecast_13 : decode cX4_forecast 13 = .ok (.invokevirtual 180, 3) := by decide +kernel
theorem dX4_forecast_16 : decode cX4_forecast 16 = .ok (.ifCond .eq 27, 3) := by decide +kernel
theorem dX4_forecast_19 : decode cX4_forecast 19 = .ok (.aload_n 0, 1) := by decide +kernel
theorem dX4_forecast_20 : decode cX4_forecast 20 = .ok (.iconst 0, 1) := by decide +kernel
theorem dX4_forecast_21 : decode cX4_forecast 21 = .ok (.invokevirtual 168, 3) := by decide +kernel
theorem dX4_forecast_24 : decode cX4_forecast 24 = .ok (.ifCond .eq 19, 3) := by decide +kernel
theorem dX4_forecast_27 : decode cX4_forecast 27 = .ok (.aload_n 0, 1) := by decide +kernel
theorem dX4_forecast_28 : decode cX4_forecast 28 = .ok (.iconst 0, 1) := by decide +kernel
theorem dX4_forecast_29 : decode cX4_forecast 29 = .ok (.invokevirtual 145, 3) := by decide +kernel
theorem dX4_forecast_32 : decode cX4_forecast 32 = .ok (.ifCond .eq 11, 3) := by decide +kernel
theorem dX4_forecast_35 : decode cX4_forecast 35 = .ok (.aload_n 0, 1) := by decide +kernel
theorem dX4_forecast_36 : decode cX4_forecast 36 = .ok (.iconst 0, 1) := by decide +kernel
theorem dX4_forecast_37 : decode cX4_forecast 37 = .ok (.invokevirtual 157, 3) := by decide +kernel
theorem dX4_forecast_40 : decode cX4_forecast 40 = .ok (.ifCond .ne 5, 3) := by decide +kernel
theorem dX4_forecast_43 : decode cX4_forecast 43 = .ok (.iconst 0, 1) := by decide +kernel
theorem dX4_forecast_44 : decode cX4_forecast 44 = .ok (.ireturn, 1) := by decide +kernel
theorem dX4_forecast_45 : decode cX4_forecast 45 = .ok (.iconst (-1), 1) := by decide +kernel
theorem dX4_forecast_46 : decode cX4_forecast 46 = .ok (.istore_n 1, 1) := by decide +kernel
theorem dX4_forecast_47 : decode cX4_forecast 47 = .ok (.aload_n 0, 1) := by decide +kernel
theorem dX4_forecast_48 : decode cX4_forecast 48 = .ok (.getfield 62, 3) := by decide +kernel
theorem dX4_forecast_51 : decode cX4_forecast 51 = .ok (.aload_n 0, 1) := by decide +kernel
theorem dX4_forecast_52 : decode cX4_forecast 52 = .ok (.getfield 59, 3) := by decide +kernel
theorem dX4_forecast_55 : decode cX4_forecast 55 = .ok (.if_icmp .ge 74, 3) := by decide +kernel
theorem dX4_forecast_58 : decode cX4_forecast 58 = .ok (.aload_n 0, 1) := by decide +kernel
theorem dX4_forecast_59 : decode cX4_forecast 59 = .ok (.getfield 183, 3) := by decide +kernel
theorem dX4_forecast_62 : decode cX4_forecast 62 = .ok (.bipush 9, 2) := by decide +kernel
theorem dX4_forecast_64 : decode cX4_forecast 64 = .ok (.if_icmp .eq 15, 3) := by decide +kernel
theorem dX4_forecast_67 : decode cX4_forecast 67 = .ok (.aload_n 0, 1) := by decide +kernel
theorem dX4_forecast_68 : decode cX4_forecast 68 = .ok (.aload_n 0, 1) := by decide +kernel
theorem dX4_forecast_69 : decode cX4_forecast 69 = .ok (.getfield 183, 3) := by decide +kernel
theorem dX4_forecast_72 : decode cX4_forecast 72 = .ok (.iload_n 1, 1) := by decide +kernel
theorem dX4_forecast_73 : decode cX4_forecast 73 = .ok (.invokevirtual 186, 3) := by decide +kernel
theorem dX4_forecast_76 : decode cX4_forecast 76 = .ok (.ifCond .ne 5, 3) := by decide +kernel
theorem dX4_forecast_79 : decode cX4_forecast 79 = .ok (.iconst 0, 1) := by decide +kernel
theorem dX4_forecast_80 : decode cX4_forecast 80 = .ok (.ireturn, 1) := by decide +kernel
theorem dX4_forecast_81 : decode cX4_forecast 81 = .ok (.aload_n 0, 1) := by decide +kernel
theorem dX4_forecast_82 : decode cX4_forecast 82 = .ok (.getfield 22, 3) := by decide +kernel
theorem dX4_forecast_85 : decode cX4_forecast 85 = .ok (.bipush 10, 2) := by decide +kernel
theorem dX4_forecast_87 : decode cX4_forecast 87 = .ok (.aload_n 0, 1) := by decide +kernel
theorem dX4_forecast_88 : decode cX4_forecast 88 = .ok (.getfield 183, 3) := by decide +kernel
theorem dX4_forecast_91 : decode cX4_forecast 91 = .ok (.imul, 1) := by decide +kernel
theorem dX4_forecast_92 : decode cX4_forecast 92 = .ok (.iaload, 1) := by decide +kernel
theorem dX4_forecast_93 : decode cX4_forecast 93 = .ok (.iconst 1, 1) := by decide +kernel
theorem dX4_forecast_94 : decode cX4_forecast 94 = .ok (.if_icmp .ne 20, 3) := by decide +kernel
theorem dX4_forecast_97 : decode cX4_forecast 97 = .ok (.aload_n 0, 1) := by decide +kernel
theorem dX4_forecast_98 : decode cX4_forecast 98 = .ok (.getfield 22, 3) := by decide +kernel
theorem dX4_forecast_101 : decode cX4_forecast 101 = .ok (.bipush 10, 2) := by decide +kernel
theorem dX4_forecast_103 : decode cX4_forecast 103 = .ok (.aload_n 0, 1) := by decide +kernel
theorem dX4_forecast_104 : decode cX4_forecast 104 = .ok (.getfield 183, 3) := by decide +kernel
theorem dX4_forecast_107 : decode cX4_forecast 107 = .ok (.imul, 1) := by decide +kernel
theorem dX4_forecast_108 : decode cX4_forecast 108 = .ok (.iconst 2, 1) := by decide +kernel
theorem dX4_forecast_109 : decode cX4_forecast 109 = .ok (.iadd, 1) := by decide +kernel
theorem dX4_forecast_110 : decode cX4_forecast 110 = .ok (.iaload, 1) := by decide +kernel
theorem dX4_forecast_111 : decode cX4_forecast 111 = .ok (.goto 4, 3) := by decide +kernel
theorem dX4_forecast_114 : decode cX4_forecast 114 = .ok (.iload_n 1, 1) := by decide +kernel
theorem dX4_forecast_115 : decode cX4_forecast 115 = .ok (.istore_n 1, 1) := by decide +kernel
theorem dX4_forecast_116 : decode cX4_forecast 116 = .ok (.aload_n 0, 1) := by decide +kernel
theorem dX4_forecast_117 : decode cX4_forecast 117 = .ok (.dup, 1) := by decide +kernel
theorem dX4_forecast_118 : decode cX4_forecast 118 = .ok (.getfield 183, 3) := by decide +kernel
theorem dX4_forecast_121 : decode cX4_forecast 121 = .ok (.iconst 1, 1) := by decide +kernel
theorem dX4_forecast_122 : decode cX4_forecast 122 = .ok (.iadd, 1) := by decide +kernel
theorem dX4_forecast_123 : decode cX4_forecast 123 = .ok (.putfield 183, 3) := by decide +kernel
theorem dX4_forecast_126 : decode cX4_forecast 126 = .ok (.goto (-79), 3) := by decide +kernel
theorem dX4_forecast_129 : decode cX4_forecast 129 = .ok (.iconst 1, 1) := by decide +kernel
theorem dX4_forecast_130 : decode cX4_forecast 130 = .ok (.ireturn, 1) := by decide +kernel
theorem dX4_report_0 : decode cX4_report 0 = .ok (.aload_n 0, 1) := by decide +kernel
theorem dX4_report_1 : decode cX4_report 1 = .ok (.iconst 1, 1) := by decide +kernel
theorem dX4_report_2 : decode cX4_report 2 = .ok (.putfield 174, 3) := by decide +kernel
theorem dX4_report_5 : decode cX4_report 5 = .ok (.aload_n 0, 1) := by decide +kernel
theorem dX4_report_6 : decode cX4_report 6 = .ok (.invokevirtual 177, 3) := by decide +kernel
theorem dX4_report_9 : decode cX4_report 9 = .ok (.ifCond .eq 37, 3) := by decide +kernel
theorem dX4_report_12 : decode cX4_report 12 = .ok (.aload_n 0, 1) := by decide +kernel
theorem dX4_report_13 : decode cX4_report 13 = .ok (.invokevirtual 180, 3) := by decide +kernel
theorem dX4_report_16 : decode cX4_report 16 = .ok (.ifCond .eq 30, 3) := by decide +kernel
theorem dX4_report_19 : decode cX4_report 19 = .ok (.aload_n 0, 1) := by decide +kernel
theorem dX4_report_20 : decode cX4_report 20 = .ok (.iconst 0, 1) := by decide +kernel
theorem dX4_report_21 : decode cX4_report 21 = .ok (.invokevirtual 145, 3) := by decide +kernel
theorem dX4_report_24 : decode cX4_report 24 = .ok (.ifCond .eq 22, 3) := by decide +kernel
theorem dX4_report_27 : decode cX4_report 27 = .ok (.aload_n 0, 1) := by decide +kernel
theorem dX4_report_28 : decode cX4_report 28 = .ok (.iconst 0, 1) := by decide +kernel
theorem dX4_report_29 : decode cX4_report 29 = .ok (.invokevirtual 157, 3) := by decide +kernel
theorem dX4_report_32 : decode cX4_report 32 = .ok (.ifCond .eq 14, 3) := by decide +kernel
theorem dX4_report_35 : decode cX4_report 35 = .ok (.aload_n 0, 1) := by decide +kernel
theorem dX4_report_36 : decode cX4_report 36 = .ok (.invokevirtual 189, 3) := by decide +kernel
theorem dX4_report_39 : decode cX4_report 39 = .ok (.ifCond .eq 7, 3) := by decide +kernel
theorem dX4_report_42 : decode cX4_report 42 = .ok (.iconst 1, 1) := by decide +kernel
theorem dX4_report_43 : decode cX4_report 43 = .ok (.goto 4, 3) := by decide +kernel
theorem dX4_report_46 : decode cX4_report 46 = .ok (.iconst 0, 1) := by decide +kernel
theorem dX4_report_47 : decode cX4_report 47 = .ok (.ireturn, 1) := by decide +kernel
theorem dX4_read_0 : decode cX4_read 0 = .ok (.iload_n 1, 1) := by decide +kernel
theorem dX4_read_1 : decode cX4_read 1 = .ok (.bipush 28, 2) := by decide +kernel
theorem dX4_read_3 : decode cX4_read 3 = .ok (.if_icmp .lt 9, 3) := by decide +kernel
theorem dX4_read_6 : decode cX4_read 6 = .ok (.iload_n 1, 1) := by decide +kernel
theorem dX4_read_7 : decode cX4_read 7 = .ok (.bipush 31, 2) := by decide +kernel
theorem dX4_read_9 : decode cX4_read 9 = .ok (.if_icmp .le 5, 3) := by decide +kernel
theorem dX4_read_12 : decode cX4_read 12 = .ok (.iconst (-1), 1) := by decide +kernel
theorem dX4_read_13 : decode cX4_read 13 = .ok (.ireturn, 1) := by decide +kernel
theorem dX4_read_14 : decode cX4_read 14 = .ok (.aload_n 0, 1) := by decide +kernel
theorem dX4_read_15 : decode cX4_read 15 = .ok (.iload_n 1, 1) := by decide +kernel
theorem dX4_read_16 : decode cX4_read 16 = .ok (.putfield 73, 3) := by decide +kernel
theorem dX4_read_19 : decode cX4_read 19 = .ok (.aload_n 0, 1) := by decide +kernel
theorem dX4_read_20 : decode cX4_read 20 = .ok (.invokevirtual 192, 3) := by decide +kernel
theorem dX4_read_23 : decode cX4_read 23 = .ok (.aload_n 0, 1) := by decide +kernel
theorem dX4_read_24 : decode cX4_read 24 = .ok (.invokevirtual 195, 3) := by decide +kernel
theorem dX4_read_27 : decode cX4_read 27 = .ok (.aload_n 0, 1) := by decide +kernel
theorem dX4_read_28 : decode cX4_read 28 = .ok (.iconst 0, 1) := by decide +kernel
theorem dX4_read_29 : decode cX4_read 29 = .ok (.putfield 62, 3) := by decide +kernel
theorem dX4_read_32 : decode cX4_read 32 = .ok (.aload_n 0, 1) := by decide +kernel
theorem dX4_read_33 : decode cX4_read 33 = .ok (.iconst 1, 1) := by decide +kernel
theorem dX4_read_34 : decode cX4_read 34 = .ok (.putfield 183, 3) := by decide +kernel
theorem dX4_read_37 : decode cX4_read 37 = .ok (.aload_n 0, 1) := by decide +kernel
theorem dX4_read_38 : decode cX4_read 38 = .ok (.invokevirtual 122, 3) := by decide +kernel
theorem dX4_read_41 : decode cX4_read 41 = .ok (.ldc2_w 198, 3) := by decide +kernel
theorem dX4_read_44 : decode cX4_read 44 = .ok (.lcmp, 1) := by decide +kernel
theorem dX4_read_45 : decode cX4_read 45 = .ok (.ifCond .ne 7, 3) := by decide +kernel
theorem dX4_read_48 : decode cX4_read 48 = .ok (.iconst 1, 1) := by decide +kernel
theorem dX4_read_49 : decode cX4_read 49 = .ok (.goto 4, 3) := by decide +kernel
theorem dX4_read_52 : decode cX4_read 52 = .ok (.iconst 0, 1) := by decide +kernel
theorem dX4_read_53 : decode cX4_read 53 = .ok (.istore_n 2, 1) := by decide +kernel
theorem dX4_read_54 : decode cX4_read 54 = .ok (.iload_n 2, 1) := by decide +kernel
theorem dX4_read_55 : decode cX4_read 55 = .ok (.ifCond .ne 14, 3) := by decide +kernel
theorem dX4_read_58 : decode cX4_read 58 = .ok (.aload_n 0, 1) := by decide +kernel
theorem dX4_read_59 : decode cX4_read 59 = .ok (.invokevirtual 122, 3) := by decide +kernel
theorem dX4_read_62 : decode cX4_read 62 = .ok (.ldc2_w 200, 3) := by decide +kernel
theorem dX4_read_65 : decode cX4_read 65 = .ok (.lcmp, 1) := by decide +kernel
theorem dX4_read_66 : decode cX4_read 66 = .ok (.ifCond .ne 7, 3) := by decide +kernel
theorem dX4_read_69 : decode cX4_read 69 = .ok (.iconst 1, 1) := by decide +kernel
theorem dX4_read_70 : decode cX4_read 70 = .ok (.goto 4, 3) := by decide +kernel
theorem dX4_read_73 : decode cX4_read 73 = .ok (.iconst 0, 1) := by decide +kernel
theorem dX4_read_74 : decode cX4_read 74 = .ok (.istore_n 3, 1) := by decide +kernel
theorem dX4_read_75 : decode cX4_read 75 = .ok (.iload_n 3, 1) := by decide +kernel
theorem dX4_read_76 : decode cX4_read 76 = .ok (.ifCond .eq 24, 3) := by decide +kernel
theorem dX4_read_79 : decode cX4_read 79 = .ok (.aload_n 0, 1) := by decide +kernel
theorem dX4_read_80 : decode cX4_read 80 = .ok (.iconst 1, 1) := by decide +kernel
theorem dX4_read_81 : decode cX4_read 81 = .ok (.putfield 62, 3) := by decide +kernel
theorem dX4_read_84 : decode cX4_read 84 = .ok (.iload_n 2, 1) := by decide +kernel
theorem dX4_read_85 : decode cX4_read 85 = .ok (.ifCond .eq 10, 3) := by decide +kernel
theorem dX4_read_88 : decode cX4_read 88 = .ok (.aload_n 0, 1) := by decide +kernel
theorem dX4_read_89 : decode cX4_read 89 = .ok (.invokevirtual 202, 3) := by decide +kernel
theorem dX4_read_92 : decode cX4_read 92 = .ok (.goto 7, 3) := by decide +kernel
theorem dX4_read_95 : decode cX4_read 95 = .ok (.aload_n 0, 1) := by decide +kernel
theorem dX4_read_96 : decode cX4_read 96 = .ok (.invokevirtual 205, 3) := by decide +kernel
theorem dX4_read_99 : decode cX4_read 99 = .ok (.istore_n 3, 1) := by decide +kernel
theorem dX4_read_100 : decode cX4_read 100 = .ok (.aload_n 0, 1) := by decide +kernel
theorem dX4_read_101 : decode cX4_read 101 = .ok (.getfield 62, 3) := by decide +kernel
theorem dX4_read_104 : decode cX4_read 104 = .ok (.aload_n 0, 1) := by decide +kernel
theorem dX4_read_105 : decode cX4_read 105 = .ok (.getfield 59, 3) := by decide +kernel
theorem dX4_read_108 : decode cX4_read 108 = .ok (.if_icmp .ge 15, 3) := by decide +kernel
theorem dX4_read_111 : decode cX4_read 111 = .ok (.aload_n 0, 1) := by decide +kernel
theorem dX4_read_112 : decode cX4_read 112 = .ok (.getfield 13, 3) := by decide +kernel
theorem dX4_read_115 : decode cX4_read 115 = .ok (.aload_n 0, 1) := by decide +kernel
theorem dX4_read_116 : decode cX4_read 116 = .ok (.getfield 62, 3) := by decide +kernel
theorem dX4_read_119 : decode cX4_read 119 = .ok (.iaload, 1) := by decide +kernel
theorem dX4_read_120 : decode cX4_read 120 = .ok (.goto 7, 3) := by decide +kernel
theorem dX4_read_123 : decode cX4_read 123 = .ok (.aload_n 0, 1) := by decide +kernel
theorem dX4_read_124 : decode cX4_read 124 = .ok (.getfield 49, 3) := by decide +kernel
theorem dX4_read_127 : decode cX4_read 127 = .ok (.iconst 1, 1) := by decide +kernel
theorem dX4_read_128 : decode cX4_read 128 = .ok (.iadd, 1) := by decide +kernel
theorem dX4_read_129 : decode cX4_read 129 = .ok (.istore 4, 2) := by decide +kernel
theorem dX4_read_131 : decode cX4_read 131 = .ok (.iload_n 3, 1) := by decide +kernel
theorem dX4_read_132 : decode cX4_read 132 = .ok (.ifCond .eq 7, 3) := by decide +kernel
theorem dX4_read_135 : decode cX4_read 135 = .ok (.aload_n 0, 1) := by decide +kernel
theorem dX4_read_136 : decode cX4_read 136 = .ok (.invokevirtual 208, 3) := by decide +kernel
theorem dX4_read_139 : decode cX4_read 139 = .ok (.aload_n 0, 1) := by decide +kernel
theorem dX4_read_140 : decode cX4_read 140 = .ok (.iconst 0, 1) := by decide +kernel
theorem dX4_read_141 : decode cX4_read 141 = .ok (.putfield 49, 3) := by decide +kernel
theorem dX4_read_144 : decode cX4_read 144 = .ok (.iload_n 3, 1) := by decide +kernel
theorem dX4_read_145 : decode cX4_read 145 = .ok (.ifCond .eq 7, 3) := by decide +kernel
theorem dX4_read_148 : decode cX4_read 148 = .ok (.iconst 0, 1) := by decide +kernel
theorem dX4_read_149 : decode cX4_read 149 = .ok (.goto 5, 3) := by decide +kernel
theorem dX4_read_152 : decode cX4_read 152 = .ok (.iload 4, 2) := by decide +kernel
theorem dX4_read_154 : decode cX4_read 154 = .ok (.ireturn, 1) := by decide +kernel
theorem dX4_keep_0 : decode cX4_keep 0 = .ok (.aload_n 0, 1) := by decide +kernel
theorem dX4_keep_1 : decode cX4_keep 1 = .ok (.aload_n 0, 1) := by decide +kernel
theorem dX4_keep_2 : decode cX4_keep 2 = .ok (.getfield 174, 3) := by decide +kernel
theorem dX4_keep_5 : decode cX4_keep 5 = .ok (.putfield 211, 3) := by decide +kernel
theorem dX4_keep_8 : decode cX4_keep 8 = .ok (.aload_n 0, 1) := by decide +kernel
theorem dX4_keep_9 : decode cX4_keep 9 = .ok (.aload_n 0, 1) := by decide +kernel
theorem dX4_keep_10 : decode cX4_keep 10 = .ok (.getfield 183, 3) := by decide +kernel
theorem dX4_keep_13 : decode cX4_keep 13 = .ok (.putfield 214, 3) := by decide +kernel
theorem dX4_keep_16 : decode cX4_keep 16 = .ok (.aload_n 0, 1) := by decide +kernel
theorem dX4_keep_17 : decode cX4_keep 17 = .ok (.aload_n 0, 1) := by decide +kernel
theorem dX4_keep_18 : decode cX4_keep 18 = .ok (.getfield 91, 3) := by decide +kernel
theorem dX4_keep_21 : decode cX4_keep 21 = .ok (.putfield 217, 3) := by decide +kernel
theorem dX4_keep_24 : decode cX4_keep 24 = .ok (.aload_n 0, 1) := by decide +kernel
theorem dX4_keep_25 : decode cX4_keep 25 = .ok (.aload_n 0, 1) := by decide +kernel
theorem dX4_keep_26 : decode cX4_keep 26 = .ok (.getfield 94, 3) := by decide +kernel
theorem dX4_keep_29 : decode cX4_keep 29 = .ok (.putfield 220, 3) := by decide +kernel
theorem dX4_keep_32 : decode cX4_keep 32 = .ok (.aload_n 0, 1) := by decide +kernel
theorem dX4_keep_33 : decode cX4_keep 33 = .ok (.aload_n 0, 1) := by decide +kernel
theorem dX4_keep_34 : decode cX4_keep 34 = .ok (.getfield 97, 3) := by decide +kernel
theorem dX4_keep_37 : decode cX4_keep 37 = .ok (.putfield 223, 3) := by decide +kernel
theorem dX4_keep_40 : decode cX4_keep 40 = .ok (.aload_n 0, 1) := by decide +kernel
theorem dX4_keep_41 : decode cX4_keep 41 = .ok (.aload_n 0, 1) := by decide +kernel
theorem dX4_keep_42 : decode cX4_keep 42 = .ok (.getfield 100, 3) := by decide +kernel
theorem dX4_keep_45 : decode cX4_keep 45 = .ok (.putfield 226, 3) := by decide +kernel
theorem dX4_keep_48 : decode cX4_keep 48 = .ok (.iconst 0, 1) := by decide +kernel
theorem dX4_keep_49 : decode cX4_keep 49 = .ok (.istore_n 1, 1) := by decide +kernel
theorem dX4_keep_50 : decode cX4_keep 50 = .ok (.iload_n 1, 1) := by decide +kernel
theorem dX4_keep_51 : decode cX4_keep 51 = .ok (.iconst 4, 1) := by decide +kernel
theorem dX4_keep_52 : decode cX4_keep 52 = .ok (.if_icmp .ge 21, 3) := by decide +kernel
theorem dX4_keep_55 : decode cX4_keep 55 = .ok (.aload_n 0, 1) := by decide +kernel
theorem dX4_keep_56 : decode cX4_keep 56 = .ok (.getfield 31, 3) := by decide +kernel
theorem dX4_keep_59 : decode cX4_keep 59 = .ok (.iload_n 1, 1) := by decide +kernel
theorem dX4_keep_60 : decode cX4_keep 60 = .ok (.aload_n 0, 1) := by decide +kernel
theorem dX4_keep_61 : decode cX4_keep 61 = .ok (.getfield 19, 3) := by decide +kernel
theorem dX4_keep_64 : decode cX4_keep 64 = .ok (.iload_n 1, 1) := by decide +kernel
theorem dX4_keep_65 : decode cX4_keep 65 = .ok (.iaload, 1) := by decide +kernel
theorem dX4_keep_66 : decode cX4_keep 66 = .ok (.iastore, 1) := by decide +kernel
theorem dX4_keep_67 : decode cX4_keep 67 = .ok (.iinc 1 1, 3) := by decide +kernel
theorem dX4_keep_70 : decode cX4_keep 70 = .ok (.goto (-20), 3) := by decide +kernel
theorem dX4_keep_73 : decode cX4_keep 73 = .ok (.iconst 0, 1) := by decide +kernel
theorem dX4_keep_74 : decode cX4_keep 74 = .ok (.istore_n 1, 1) := by decide +kernel
theorem dX4_keep_75 : decode cX4_keep 75 = .ok (.iload_n 1, 1) := by decide +kernel
theorem dX4_keep_76 : decode cX4_keep 76 = .ok (.bipush 90, 2) := by decide +kernel
theorem dX4_keep_78 : decode cX4_keep 78 = .ok (.if_icmp .ge 21, 3) := by decide +kernel
theorem dX4_keep_81 : decode cX4_keep 81 = .ok (.aload_n 0, 1) := by decide +kernel
theorem dX4_keep_82 : decode cX4_keep 82 = .ok (.getfield 34, 3) := by decide +kernel
theorem dX4_keep_85 : decode cX4_keep 85 = .ok (.iload_n 1, 1) := by decide +kernel
theorem dX4_keep_86 : decode cX4_keep 86 = .ok (.aload_n 0, 1) := by decide +kernel
theorem dX4_keep_87 : decode cX4_keep 87 = .ok (.getfield 22, 3) := by decide +kernel
theorem dX4_keep_90 : decode cX4_keep 90 = .ok (.iload_n 1, 1) := by decide +kernel
theorem dX4_keep_91 : decode cX4_keep 91 = .ok (.iaload, 1) := by decide +kernel
theorem dX4_keep_92 : decode cX4_keep 92 = .ok (.iastore, 1) := by decide +kernel
theorem dX4_keep_93 : decode cX4_keep 93 = .ok (.iinc 1 1, 3) := by decide +kernel
theorem dX4_keep_96 : decode cX4_keep 96 = .ok (.goto (-21), 3) := by decide +kernel
theorem dX4_keep_99 : decode cX4_keep 99 = .ok (.iconst 0, 1) := by decide +kernel
theorem dX4_keep_100 : decode cX4_keep 100 = .ok (.istore_n 1, 1) := by decide +kernel
theorem dX4_keep_101 : decode cX4_keep 101 = .ok (.iload_n 1, 1) := by decide +kernel
theorem dX4_keep_102 : decode cX4_keep 102 = .ok (.bipush 27, 2) := by decide +kernel
theorem dX4_keep_104 : decode cX4_keep 104 = .ok (.if_icmp .ge 21, 3) := by decide +kernel
theorem dX4_keep_107 : decode cX4_keep 107 = .ok (.aload_n 0, 1) := by decide +kernel
theorem dX4_keep_108 : decode cX4_keep 108 = .ok (.getfield 37, 3) := by decide +kernel
theorem dX4_keep_111 : decode cX4_keep 111 = .ok (.iload_n 1, 1) := by decide +kernel
theorem dX4_keep_112 : decode cX4_keep 112 = .ok (.aload_n 0, 1) := by decide +kernel
theorem dX4_keep_113 : decode cX4_keep 113 = .ok (.getfield 25, 3) := by decide +kernel
theorem dX4_keep_116 : decode cX4_keep 116 = .ok (.iload_n 1, 1) := by decide +kernel
theorem dX4_keep_117 : decode cX4_keep 117 = .ok (.iaload, 1) := by decide +kernel
theorem dX4_keep_118 : decode cX4_keep 118 = .ok (.iastore, 1) := by decide +kernel
theorem dX4_keep_119 : decode cX4_keep 119 = .ok (.iinc 1 1, 3) := by decide +kernel
theorem dX4_keep_122 : decode cX4_keep 122 = .ok (.goto (-21), 3) := by decide +kernel
theorem dX4_keep_125 : decode cX4_keep 125 = .ok (.iconst 0, 1) := by decide +kernel
theorem dX4_keep_126 : decode cX4_keep 126 = .ok (.istore_n 1, 1) := by decide +kernel
theorem dX4_keep_127 : decode cX4_keep 127 = .ok (.iload_n 1, 1) := by decide +kernel
theorem dX4_keep_128 : decode cX4_keep 128 = .ok (.bipush 36, 2) := by decide +kernel
theorem dX4_keep_130 : decode cX4_keep 130 = .ok (.if_icmp .ge 21, 3) := by decide +kernel
theorem dX4_keep_133 : decode cX4_keep 133 = .ok (.aload_n 0, 1) := by decide +kernel
theorem dX4_keep_134 : decode cX4_keep 134 = .ok (.getfield 40, 3) := by decide +kernel
theorem dX4_keep_137 : decode cX4_keep 137 = .ok (.iload_n 1, 1) := by decide +kernel
theorem dX4_keep_138 : decode cX4_keep 138 = .ok (.aload_n 0, 1) := by decide +kernel
theorem dX4_keep_139 : decode cX4_keep 139 = .ok (.getfield 28, 3) := by decide +kernel
theorem dX4_keep_142 : decode cX4_keep 142 = .ok (.iload_n 1, 1) := by decide +kernel
theorem dX4_keep_143 : decode cX4_keep 143 = .ok (.iaload, 1) := by decide +kernel
theorem dX4_keep_144 : decode cX4_keep 144 = .ok (.iastore, 1) := by decide +kernel
theorem dX4_keep_145 : decode cX4_keep 145 = .ok (.iinc 1 1, 3) := by decide +kernel
theorem dX4_keep_148 : decode cX4_keep 148 = .ok (.goto (-21), 3) := by decide +kernel
theorem dX4_keep_151 : decode cX4_keep 151 = .ok (.aload_n 0, 1) := by decide +kernel
theorem dX4_keep_152 : decode cX4_keep 152 = .ok (.iconst 0, 1) := by decide +kernel
theorem dX4_keep_153 : decode cX4_keep 153 = .ok (.putfield 229, 3) := by decide +kernel
theorem dX4_keep_156 : decode cX4_keep 156 = .ok (.iconst 0, 1) := by decide +kernel
theorem dX4_keep_157 : decode cX4_keep 157 = .ok (.istore_n 1, 1) := by decide +kernel
theorem dX4_keep_158 : decode cX4_keep 158 = .ok (.iload_n 1, 1) := by decide +kernel
theorem dX4_keep_159 : decode cX4_keep 159 = .ok (.aload_n 0, 1) := by decide +kernel
theorem dX4_keep_160 : decode cX4_keep 160 = .ok (.getfield 59, 3) := by decide +kernel
theorem dX4_keep_163 : decode cX4_keep 163 = .ok (.if_icmp .ge 78, 3) := by decide +kernel
theorem dX4_keep_166 : decode cX4_keep 166 = .ok (.aload_n 0, 1) := by decide +kernel
theorem dX4_keep_167 : decode cX4_keep 167 = .ok (.getfield 13, 3) := by decide +kernel
theorem dX4_keep_170 : decode cX4_keep 170 = .ok (.iload_n 1, 1) := by decide +kernel
theorem dX4_keep_171 : decode cX4_keep 171 = .ok (.iaload, 1) := by decide +kernel
theorem dX4_keep_172 : decode cX4_keep 172 = .ok (.istore_n 2, 1) := by decide +kernel
theorem dX4_keep_173 : decode cX4_keep 173 = .ok (.iload_n 2, 1) := by decide +kernel
theorem dX4_keep_174 : decode cX4_keep 174 = .ok (.aload_n 0, 1) := by decide +kernel
theorem dX4_keep_175 : decode cX4_keep 175 = .ok (.getfield 16, 3) := by decide +kernel
theorem dX4_keep_178 : decode cX4_keep 178 = .ok (.iload_n 1, 1) := by decide +kernel
theorem dX4_keep_179 : decode cX4_keep 179 = .ok (.iaload, 1) := by decide +kernel
theorem dX4_keep_180 : decode cX4_keep 180 = .ok (.if_icmp .ge 34, 3) := by decide +kernel
theorem dX4_keep_183 : decode cX4_keep 183 = .ok (.aload_n 0, 1) := by decide +kernel
theorem dX4_keep_184 : decode cX4_keep 184 = .ok (.getfield 43, 3) := by decide +kernel
theorem dX4_keep_187 : decode cX4_keep 187 = .ok (.aload_n 0, 1) := by decide +kernel
theorem dX4_keep_188 : decode cX4_keep 188 = .ok (.getfield 229, 3) := by decide +kernel
theorem dX4_keep_191 : decode cX4_keep 191 = .ok (.aload_n 0, 1) := by decide +kernel
theorem dX4_keep_192 : decode cX4_keep 192 = .ok (.getfield 7, 3) := by decide +kernel
theorem dX4_keep_195 : decode cX4_keep 195 = .ok (.iload_n 2, 1) := by decide +kernel
theorem dX4_keep_196 : decode cX4_keep 196 = .ok (.iaload, 1) := by decide +kernel
theorem dX4_keep_197 : decode cX4_keep 197 = .ok (.iastore, 1) := by decide +kernel
theorem dX4_keep_198 : decode cX4_keep 198 = .ok (.aload_n 0, 1) := by decide +kernel
theorem dX4_keep_199 : decode cX4_keep 199 = .ok (.dup, 1) := by decide +kernel
theorem dX4_keep_200 : decode cX4_keep 200 = .ok (.getfield 229, 3) := by decide +kernel
theorem dX4_keep_203 : decode cX4_keep 203 = .ok (.iconst 1, 1) := by decide +kernel
theorem dX4_keep_204 : decode cX4_keep 204 = .ok (.iadd, 1) := by decide +kernel
theorem dX4_keep_205 : decode cX4_keep 205 = .ok (.putfield 229, 3) := by decide +kernel
theorem dX4_keep_208 : decode cX4_keep 208 = .ok (.iinc 2 1, 3) := by decide +kernel
theorem dX4_keep_211 : decode cX4_keep 211 = .ok (.goto (-38), 3) := by decide +kernel
theorem dX4_keep_214 : decode cX4_keep 214 = .ok (.aload_n 0, 1) := by decide +kernel
theorem dX4_keep_215 : decode cX4_keep 215 = .ok (.getfield 43, 3) := by decide +kernel
theorem dX4_keep_218 : decode cX4_keep 218 = .ok (.aload_n 0, 1) := by decide +kernel
theorem dX4_keep_219 : decode cX4_keep 219 = .ok (.getfield 229, 3) := by decide +kernel
theorem dX4_keep_222 : decode cX4_keep 222 = .ok (.bipush 32, 2) := by decide +kernel
theorem dX4_keep_224 : decode cX4_keep 224 = .ok (.iastore, 1) := by decide +kernel
theorem dX4_keep_225 : decode cX4_keep 225 = .ok (.aload_n 0, 1) := by decide +kernel
theorem dX4_keep_226 : decode cX4_keep 226 = .ok (.dup, 1) := by decide +kernel
theorem dX4_keep_227 : decode cX4_keep 227 = .ok (.getfield 229, 3) := by decide +kernel
theorem dX4_keep_230 : decode cX4_keep 230 = .ok (.iconst 1, 1) := by decide +kernel
theorem dX4_keep_231 : decode cX4_keep 231 = .ok (.iadd, 1) := by decide +kernel
theorem dX4_keep_232 : decode cX4_keep 232 = .ok (.putfield 229, 3) := by decide +kernel
theorem dX4_keep_235 : decode cX4_keep 235 = .ok (.iinc 1 1, 3) := by decide +kernel
theorem dX4_keep_238 : decode cX4_keep 238 = .ok (.goto (-80), 3) := by decide +kernel
theorem dX4_keep_241 : decode cX4_keep 241 = .ok (.aload_n 0, 1) := by decide +kernel
theorem dX4_keep_242 : decode cX4_keep 242 = .ok (.dup, 1) := by decide +kernel
theorem dX4_keep_243 : decode cX4_keep 243 = .ok (.getfield 229, 3) := by decide +kernel
theorem dX4_keep_246 : decode cX4_keep 246 = .ok (.iconst 1, 1) := by decide +kernel
theorem dX4_keep_247 : decode cX4_keep 247 = .ok (.isub, 1) := by decide +kernel
theorem dX4_keep_248 : decode cX4_keep 248 = .ok (.putfield 229, 3) := by decide +kernel
theorem dX4_keep_251 : decode cX4_keep 251 = .ok (.return_, 1) := by decide +kernel
theorem dX4_told_0 : decode cX4_told 0 = .ok (.iload_n 1, 1) := by decide +kernel
theorem dX4_told_1 : decode cX4_told 1 = .ok (.ifCond .ne 8, 3) := by decide +kernel
theorem dX4_told_4 : decode cX4_told 4 = .ok (.aload_n 0, 1) := by decide +kernel
theorem dX4_told_5 : decode cX4_told 5 = .ok (.getfield 211, 3) := by decide +kernel
theorem dX4_told_8 : decode cX4_told 8 = .ok (.ireturn, 1) := by decide +kernel
theorem dX4_told_9 : decode cX4_told 9 = .ok (.iload_n 1, 1) := by decide +kernel
theorem dX4_told_10 : decode cX4_told 10 = .ok (.iconst 1, 1) := by decide +kernel
theorem dX4_told_11 : decode cX4_told 11 = .ok (.if_icmp .ne 19, 3) := by decide +kernel
theorem dX4_told_14 : decode cX4_told 14 = .ok (.aload_n 0, 1) := by decide +kernel
theorem dX4_told_15 : decode cX4_told 15 = .ok (.getfield 211, 3) := by decide +kernel
theorem dX4_told_18 : decode cX4_told 18 = .ok (.ifCond .ne 7, 3) := by decide +kernel
theorem dX4_told_21 : decode cX4_told 21 = .ok (.iconst 0, 1) := by decide +kernel
theorem dX4_told_22 : decode cX4_told 22 = .ok (.goto 7, 3) := by decide +kernel
theorem dX4_told_25 : decode cX4_told 25 = .ok (.aload_n 0, 1) := by decide +kernel
theorem dX4_told_26 : decode cX4_told 26 = .ok (.getfield 214, 3) := by decide +kernel
theorem dX4_told_29 : decode cX4_told 29 = .ok (.ireturn, 1) := by decide +kernel
theorem dX4_told_30 : decode cX4_told 30 = .ok (.aload_n 0, 1) := by decide +kernel
theorem dX4_told_31 : decode cX4_told 31 = .ok (.getfield 211, 3) := by decide +kernel
theorem dX4_told_34 : decode cX4_told 34 = .ok (.ifCond .eq 32, 3) := by decide +kernel
theorem dX4_told_37 : decode cX4_told 37 = .ok (.iload_n 1, 1) := by decide +kernel
theorem dX4_told_38 : decode cX4_told 38 = .ok (.iconst 2, 1) := by decide +kernel
theorem dX4_told_39 : decode cX4_told 39 = .ok (.if_icmp .lt 27, 3) := by decide +kernel
theorem dX4_told_42 : decode cX4_told 42 = .ok (.iload_n 1, 1) := by decide +kernel
theorem dX4_told_43 : decode cX4_told 43 = .ok (.bipush 9, 2) := by decide +kernel
theorem dX4_told_45 : decode cX4_told 45 = .ok (.if_icmp .gt 21, 3) := by decide +kernel
theorem dX4_told_48 : decode cX4_told 48 = .ok (.aload_n 0, 1) := by decide +kernel
theorem dX4_told_49 : decode cX4_told 49 = .ok (.getfield 211, 3) := by decide +kernel
theorem dX4_told_52 : decode cX4_told 52 = .ok (.iconst 2, 1) := by decide +kernel
theorem dX4_told_53 : decode cX4_told 53 = .ok (.if_icmp .ne 17, 3) := by decide +kernel
theorem dX4_told_56 : decode cX4_told 56 = .ok (.iload_n 1, 1) := by decide +kernel
theorem dX4_told_57 : decode cX4_told 57 = .ok (.iconst 3, 1) := by decide +kernel
theorem dX4_told_58 : decode cX4_told 58 = .ok (.if_icmp .lt 12, 3) := by decide +kernel
theorem dX4_told_61 : decode cX4_told 61 = .ok (.iload_n 1, 1) := by decide +kernel
theorem dX4_told_62 : decode cX4_told 62 = .ok (.iconst 5, 1) := by decide +kernel
theorem dX4_told_63 : decode cX4_told 63 = .ok (.if_icmp .gt 7, 3) := by decide +kernel
theorem dX4_told_66 : decode cX4_told 66 = .ok (.sipush (-1001), 3) := by decide +kernel
theorem dX4_told_69 : decode cX4_told 69 = .ok (.ireturn, 1) := by decide +kernel
theorem dX4_told_70 : decode cX4_told 70 = .ok (.iload_n 1, 1) := by decide +kernel
theorem dX4_told_71 : decode cX4_told 71 = .ok (.iconst 2, 1) := by decide +kernel
theorem dX4_told_72 : decode cX4_told 72 = .ok (.if_icmp .ne 10, 3) := by decide +kernel
theorem dX4_told_75 : decode cX4_told 75 = .ok (.aload_n 0, 1) := by decide +kernel
theorem dX4_told_76 : decode cX4_told 76 = .ok (.getfield 217, 3) := by decide +kernel
theorem dX4_told_79 : decode cX4_told 79 = .ok (.goto 48, 3) := by decide +kernel
theorem dX4_told_82 : decode cX4_told 82 = .ok (.iload_n 1, 1) := by decide +kernel
theorem dX4_told_83 : decode cX4_told 83 = .ok (.iconst 3, 1) := by decide +kernel
theorem dX4_told_84 : decode cX4_told 84 = .ok (.if_icmp .ne 10, 3) := by decide +kernel
theorem dX4_told_87 : decode cX4_told 87 = .ok (.aload_n 0, 1) := by decide +kernel
theorem dX4_told_88 : decode cX4_told 88 = .ok (.getfield 220, 3) := by decide +kernel
theorem dX4_told_91 : decode cX4_told 91 = .ok (.goto 36, 3) := by decide +kernel
theorem dX4_told_94 : decode cX4_told 94 = .ok (.iload_n 1, 1) := by decide +kernel
theorem dX4_told_95 : decode cX4_told 95 = .ok (.iconst 4, 1) := by decide +kernel
theorem dX4_told_96 : decode cX4_told 96 = .ok (.if_icmp .ne 10, 3) := by decide +kernel
theorem dX4_told_99 : decode cX4_told 99 = .ok (.aload_n 0, 1) := by decide +kernel
theorem dX4_told_100 : decode cX4_told 100 = .ok (.getfield 223, 3) := by decide +kernel
theorem dX4_told_103 : decode cX4_told 103 = .ok (.goto 24, 3) := by decide +kernel
theorem dX4_told_106 : decode cX4_told 106 = .ok (.iload_n 1, 1) := by decide +kernel
theorem dX4_told_107 : decode cX4_told 107 = .ok (.iconst 5, 1) := by decide +kernel
theorem dX4_told_108 : decode cX4_told 108 = .ok (.if_icmp .ne 10, 3) := by decide +kernel
theorem dX4_told_111 : decode cX4_told 111 = .ok (.aload_n 0, 1) := by decide +kernel
theorem dX4_told_112 : decode cX4_told 112 = .ok (.getfield 226, 3) := by decide +kernel
theorem dX4_told_115 : decode cX4_told 115 = .ok (.goto 12, 3) := by decide +kernel
theorem dX4_told_118 : decode cX4_told 118 = .ok (.aload_n 0, 1) := by decide +kernel
theorem dX4_told_119 : decode cX4_told 119 = .ok (.getfield 31, 3) := by decide +kernel
theorem dX4_told_122 : decode cX4_told 122 = .ok (.iload_n 1, 1) := by decide +kernel
theorem dX4_told_123 : decode cX4_told 123 = .ok (.bipush 6, 2) := by decide +kernel
theorem dX4_told_125 : decode cX4_told 125 = .ok (.isub, 1) := by decide +kernel
theorem dX4_told_126 : decode cX4_told 126 = .ok (.iaload, 1) := by decide +kernel
theorem dX4_told_127 : decode cX4_told 127 = .ok (.ireturn, 1) := by decide +kernel
theorem dX4_isGroup_0 : decode cX4_isGroup 0 = .ok (.aload_n 0, 1) := by decide +kernel
theorem dX4_isGroup_1 : decode cX4_isGroup 1 = .ok (.getfield 211, 3) := by decide +kernel
theorem dX4_isGroup_4 : decode cX4_isGroup 4 = .ok (.ifCond .le 19, 3) := by decide +kernel
theorem dX4_isGroup_7 : decode cX4_isGroup 7 = .ok (.iload_n 1, 1) := by decide +kernel
theorem dX4_isGroup_8 : decode cX4_isGroup 8 = .ok (.ifCond .lt 15, 3) := by decide +kernel
theorem dX4_isGroup_11 : decode cX4_isGroup 11 = .ok (.iload_n 1, 1) := by decide +kernel
theorem dX4_isGroup_12 : decode cX4_isGroup 12 = .ok (.aload_n 0, 1) := by decide +kernel
theorem dX4_isGroup_13 : decode cX4_isGroup 13 = .ok (.getfield 214, 3) := by decide +kernel
theorem dX4_isGroup_16 : decode cX4_isGroup 16 = .ok (.if_icmp .ge 7, 3) := by decide +kernel
theorem dX4_isGroup_19 : decode cX4_isGroup 19 = .ok (.iconst 1, 1) := by decide +kernel
theorem dX4_isGroup_20 : decode cX4_isGroup 20 = .ok (.goto 4, 3) := by decide +kernel
theorem dX4_isGroup_23 : decode cX4_isGroup 23 = .ok (.iconst 0, 1) := by decide +kernel
theorem dX4_isGroup_24 : decode cX4_isGroup 24 = .ok (.ireturn, 1) := by decide +kernel
theorem dX4_group_0 : decode cX4_group 0 = .ok (.aload_n 0, 1) := by decide +kernel
theorem dX4_group_1 : decode cX4_group 1 = .ok (.iload_n 1, 1) := by decide +kernel
theorem dX4_group_2 : decode cX4_group 2 = .ok (.invokevirtual 232, 3) := by decide +kernel
theorem dX4_group_5 : decode cX4_group 5 = .ok (.ifCond .eq 27, 3) := by decide +kernel
theorem dX4_group_8 : decode cX4_group 8 = .ok (.iload_n 2, 1) := by decide +kernel
theorem dX4_group_9 : decode cX4_group 9 = .ok (.ifCond .lt 23, 3) := by decide +kernel
theorem dX4_group_12 : decode cX4_group 12 = .ok (.iload_n 2, 1) := by decide +kernel
theorem dX4_group_13 : decode cX4_group 13 = .ok (.bipush 9, 2) := by decide +kernel
theorem dX4_group_15 : decode cX4_group 15 = .ok (.if_icmp .gt 17, 3) := by decide +kernel
theorem dX4_group_18 : decode cX4_group 18 = .ok (.aload_n 0, 1) := by decide +kernel
theorem dX4_group_19 : decode cX4_group 19 = .ok (.getfield 34, 3) := by decide +kernel
theorem dX4_group_22 : decode cX4_group 22 = .ok (.bipush 10, 2) := by decide +kernel
theorem dX4_group_24 : decode cX4_group 24 = .ok (.iload_n 1, 1) := by decide +kernel
theorem dX4_group_25 : decode cX4_group 25 = .ok (.imul, 1) := by decide +kernel
theorem dX4_group_26 : decode cX4_group 26 = .ok (.iload_n 2, 1) := by decide +kernel
theorem dX4_group_27 : decode cX4_group 27 = .ok (.iadd, 1) := by decide +kernel
theorem dX4_group_28 : decode cX4_group 28 = .ok (.iaload, 1) := by decide +kernel
theorem dX4_group_29 : decode cX4_group 29 = .ok (.goto 4, 3) := by decide +kernel
theorem dX4_group_32 : decode cX4_group 32 = .ok (.iconst (-1), 1) := by decide +kernel
theorem dX4_group_33 : decode cX4_group 33 = .ok (.ireturn, 1) := by decide +kernel
theorem dX4_weather_0 : decode cX4_weather 0 = .ok (.aload_n 0, 1) := by decide +kernel
theorem dX4_weather_1 : decode cX4_weather 1 = .ok (.iload_n 1, 1) := by decide +kernel
theorem dX4_weather_2 : decode cX4_weather 2 = .ok (.invokevirtual 232, 3) := by decide +kernel
theorem dX4_weather_5 : decode cX4_weather 5 = .ok (.ifCond .eq 36, 3) := by decide +kernel
theorem dX4_weather_8 : decode cX4_weather 8 = .ok (.iload_n 2, 1) := by decide +kernel
theorem dX4_weather_9 : decode cX4_weather 9 = .ok (.ifCond .lt 32, 3) := by decide +kernel
theorem dX4_weather_12 : decode cX4_weather 12 = .ok (.iload_n 2, 1) := by decide +kernel
theorem dX4_weather_13 : decode cX4_weather 13 = .ok (.aload_n 0, 1) := by decide +kernel
theorem dX4_weather_14 : decode cX4_weather 14 = .ok (.getfield 34, 3) := by decide +kernel
theorem dX4_weather_17 : decode cX4_weather 17 = .ok (.bipush 10, 2) := by decide +kernel
theorem dX4_weather_19 : decode cX4_weather 19 = .ok (.iload_n 1, 1) := by decide +kernel
theorem dX4_weather_20 : decode cX4_weather 20 = .ok (.imul, 1) := by decide +kernel
theorem dX4_weather_21 : decode cX4_weather 21 = .ok (.bipush 8, 2) := by decide +kernel
theorem dX4_weather_23 : decode cX4_weather 23 = .ok (.iadd, 1) := by decide +kernel
theorem dX4_weather_24 : decode cX4_weather 24 = .ok (.iaload, 1) := by decide +kernel
theorem dX4_weather_25 : decode cX4_weather 25 = .ok (.if_icmp .ge 16, 3) := by decide +kernel
theorem dX4_weather_28 : decode cX4_weather 28 = .ok (.aload_n 0, 1) := by decide +kernel
theorem dX4_weather_29 : decode cX4_weather 29 = .ok (.getfield 37, 3) := by decide +kernel
theorem dX4_weather_32 : decode cX4_weather 32 = .ok (.iconst 3, 1) := by decide +kernel
theorem dX4_weather_33 : decode cX4_weather 33 = .ok (.iload_n 1, 1) := by decide +kernel
theorem dX4_weather_34 : decode cX4_weather 34 = .ok (.imul, 1) := by decide +kernel
theorem dX4_weather_35 : decode cX4_weather 35 = .ok (.iload_n 2, 1) := by decide +kernel
theorem dX4_weather_36 : decode cX4_weather 36 = .ok (.iadd, 1) := by decide +kernel
theorem dX4_weather_37 : decode cX4_weather 37 = .ok (.iaload, 1) := by decide +kernel
theorem dX4_weather_38 : decode cX4_weather 38 = .ok (.goto 4, 3) := by decide +kernel
theorem dX4_weather_41 : decode cX4_weather 41 = .ok (.iconst (-1), 1) := by decide +kernel
theorem dX4_weather_42 : decode cX4_weather 42 = .ok (.ireturn, 1) := by decide +kernel
theorem dX4_cloud_0 : decode cX4_cloud 0 = .ok (.aload_n 0, 1) := by decide +kernel
theorem dX4_cloud_1 : decode cX4_cloud 1 = .ok (.iload_n 1, 1) := by decide +kernel
theorem dX4_cloud_2 : decode cX4_cloud 2 = .ok (.invokevirtual 232, 3) := by decide +kernel
theorem dX4_cloud_5 : decode cX4_cloud 5 = .ok (.ifCond .eq 36, 3) := by decide +kernel
theorem dX4_cloud_8 : decode cX4_cloud 8 = .ok (.iload_n 2, 1) := by decide +kernel
theorem dX4_cloud_9 : decode cX4_cloud 9 = .ok (.ifCond .lt 32, 3) := by decide +kernel
theorem dX4_cloud_12 : decode cX4_cloud 12 = .ok (.iload_n 2, 1) := by decide +kernel
theorem dX4_cloud_13 : decode cX4_cloud 13 = .ok (.aload_n 0, 1) := by decide +kernel
theorem dX4_cloud_14 : decode cX4_cloud 14 = .ok (.getfield 34, 3) := by decide +kernel
theorem dX4_cloud_17 : decode cX4_cloud 17 = .ok (.bipush 10, 2) := by decide +kernel
theorem dX4_cloud_19 : decode cX4_cloud 19 = .ok (.iload_n 1, 1) := by decide +kernel
theorem dX4_cloud_20 : decode cX4_cloud 20 = .ok (.imul, 1) := by decide +kernel
theorem dX4_cloud_21 : decode cX4_cloud 21 = .ok (.bipush 9, 2) := by decide +kernel
theorem dX4_cloud_23 : decode cX4_cloud 23 = .ok (.iadd, 1) := by decide +kernel
theorem dX4_cloud_24 : decode cX4_cloud 24 = .ok (.iaload, 1) := by decide +kernel
theorem dX4_cloud_25 : decode cX4_cloud 25 = .ok (.if_icmp .ge 16, 3) := by decide +kernel
theorem dX4_cloud_28 : decode cX4_cloud 28 = .ok (.aload_n 0, 1) := by decide +kernel
theorem dX4_cloud_29 : decode cX4_cloud 29 = .ok (.getfield 40, 3) := by decide +kernel
theorem dX4_cloud_32 : decode cX4_cloud 32 = .ok (.iconst 4, 1) := by decide +kernel
theorem dX4_cloud_33 : decode cX4_cloud 33 = .ok (.iload_n 1, 1) := by decide +kernel
theorem dX4_cloud_34 : decode cX4_cloud 34 = .ok (.imul, 1) := by decide +kernel
theorem dX4_cloud_35 : decode cX4_cloud 35 = .ok (.iload_n 2, 1) := by decide +kernel
theorem dX4_cloud_36 : decode cX4_cloud 36 = .ok (.iadd, 1) := by decide +kernel
theorem dX4_cloud_37 : decode cX4_cloud 37 = .ok (.iaload, 1) := by decide +kernel
theorem dX4_cloud_38 : decode cX4_cloud 38 = .ok (.goto 4, 3) := by decide +kernel
theorem dX4_cloud_41 : decode cX4_cloud 41 = .ok (.iconst (-1), 1) := by decide +kernel
theorem dX4_cloud_42 : decode cX4_cloud 42 = .ok (.ireturn, 1) := by decide +kernel
theorem dX4_isMinute_0 : decode cX4_isMinute 0 = .ok (.aload_n 0, 1) := by decide +kernel
theorem dX4_isMinute_1 : decode cX4_isMinute 1 = .ok (.getfield 211, 3) := by decide +kernel
theorem dX4_isMinute_4 : decode cX4_isMinute 4 = .ok (.iconst 2, 1) := by decide +kernel
theorem dX4_isMinute_5 : decode cX4_isMinute 5 = .ok (.if_icmp .ne 27, 3) := by decide +kernel
theorem dX4_isMinute_8 : decode cX4_isMinute 8 = .ok (.iload_n 1, 1) := by decide +kernel
theorem dX4_isMinute_9 : decode cX4_isMinute 9 = .ok (.aload_n 0, 1) := by decide +kernel
theorem dX4_isMinute_10 : decode cX4_isMinute 10 = .ok (.getfield 34, 3) := by decide +kernel
theorem dX4_isMinute_13 : decode cX4_isMinute 13 = .ok (.iconst 2, 1) := by decide +kernel
theorem dX4_isMinute_14 : decode cX4_isMinute 14 = .ok (.iaload, 1) := by decide +kernel
theorem dX4_isMinute_15 : decode cX4_isMinute 15 = .ok (.if_icmp .lt 17, 3) := by decide +kernel
theorem dX4_isMinute_18 : decode cX4_isMinute 18 = .ok (.iload_n 1, 1) := by decide +kernel
theorem dX4_isMinute_19 : decode cX4_isMinute 19 = .ok (.aload_n 0, 1) := by decide +kernel
theorem dX4_isMinute_20 : decode cX4_isMinute 20 = .ok (.getfield 34, 3) := by decide +kernel
theorem dX4_isMinute_23 : decode cX4_isMinute 23 = .ok (.iconst 3, 1) := by decide +kernel
theorem dX4_isMinute_24 : decode cX4_isMinute 24 = .ok (.iaload, 1) := by decide +kernel
theorem dX4_isMinute_25 : decode cX4_isMinute 25 = .ok (.if_icmp .ge 7, 3) := by decide +kernel
theorem dX4_isMinute_28 : decode cX4_isMinute 28 = .ok (.iconst 1, 1) := by decide +kernel
theorem dX4_isMinute_29 : decode cX4_isMinute 29 = .ok (.goto 4, 3) := by decide +kernel
theorem dX4_isMinute_32 : decode cX4_isMinute 32 = .ok (.iconst 0, 1) := by decide +kernel
theorem dX4_isMinute_33 : decode cX4_isMinute 33 = .ok (.ireturn, 1) := by decide +kernel
theorem dX4_teller_0 : decode cX4_teller 0 = .ok (.iconst 0, 1) := by decide +kernel
theorem dX4_teller_1 : decode cX4_teller 1 = .ok (.istore_n 3, 1) := by decide +kernel
theorem dX4_teller_2 : decode cX4_teller 2 = .ok (.iconst 1, 1) := by decide +kernel
theorem dX4_teller_3 : decode cX4_teller 3 = .ok (.istore 4, 2) := by decide +kernel
theorem dX4_teller_5 : decode cX4_teller 5 = .ok (.iload 4, 2) := by decide +kernel
theorem dX4_teller_7 : decode cX4_teller 7 = .ok (.aload_n 0, 1) := by decide +kernel
theorem dX4_teller_8 : decode cX4_teller 8 = .ok (.getfield 214, 3) := by decide +kernel
theorem dX4_teller_11 : decode cX4_teller 11 = .ok (.if_icmp .ge 116, 3) := by decide +kernel
theorem dX4_teller_14 : decode cX4_teller 14 = .ok (.aload_n 0, 1) := by decide +kernel
theorem dX4_teller_15 : decode cX4_teller 15 = .ok (.getfield 34, 3) := by decide +kernel
theorem dX4_teller_18 : decode cX4_teller 18 = .ok (.bipush 10, 2) := by decide +kernel
theorem dX4_teller_20 : decode cX4_teller 20 = .ok (.iload 4, 2) := by decide +kernel
theorem dX4_teller_22 : decode cX4_teller 22 = .ok (.imul, 1) := by decide +kernel
theorem dX4_teller_23 : decode cX4_teller 23 = .ok (.iaload, 1) := by decide +kernel
theorem dX4_teller_24 : decode cX4_teller 24 = .ok (.iconst 1, 1) := by decide +kernel
theorem dX4_teller_25 : decode cX4_teller 25 = .ok (.if_icmp .ne 23, 3) := by decide +kernel
theorem dX4_teller_28 : decode cX4_teller 28 = .ok (.iload_n 1, 1) := by decide +kernel
theorem dX4_teller_29 : decode cX4_teller 29 = .ok (.aload_n 0, 1) := by decide +kernel
theorem dX4_teller_30 : decode cX4_teller 30 = .ok (.getfield 34, 3) := by decide +kernel
theorem dX4_teller_33 : decode cX4_teller 33 = .ok (.bipush 10, 2) := by decide +kernel
theorem dX4_teller_35 : decode cX4_teller 35 = .ok (.iload 4, 2) := by decide +kernel
theorem dX4_teller_37 : decode cX4_teller 37 = .ok (.imul, 1) := by decide +kernel
theorem dX4_teller_38 : decode cX4_teller 38 = .ok (.iconst 2, 1) := by decide +kernel
theorem dX4_teller_39 : decode cX4_teller 39 = .ok (.iadd, 1) := by decide +kernel
theorem dX4_teller_40 : decode cX4_teller 40 = .ok (.iaload, 1) := by decide +kernel
theorem dX4_teller_41 : decode cX4_teller 41 = .ok (.if_icmp .lt 7, 3) := by decide +kernel
theorem dX4_teller_44 : decode cX4_teller 44 = .ok (.iconst 1, 1) := by decide +kernel
theorem dX4_teller_45 : decode cX4_teller 45 = .ok (.goto 4, 3) := by decide +kernel
theorem dX4_teller_48 : decode cX4_teller 48 = .ok (.iconst 0, 1) := by decide +kernel
theorem dX4_teller_49 : decode cX4_teller 49 = .ok (.istore 5, 2) := by decide +kernel
theorem dX4_teller_51 : decode cX4_teller 51 = .ok (.aload_n 0, 1) := by decide +kernel
theorem dX4_teller_52 : decode cX4_teller 52 = .ok (.getfield 34, 3) := by decide +kernel
theorem dX4_teller_55 : decode cX4_teller 55 = .ok (.bipush 10, 2) := by decide +kernel
theorem dX4_teller_57 : decode cX4_teller 57 = .ok (.iload 4, 2) := by decide +kernel
theorem dX4_teller_59 : decode cX4_teller 59 = .ok (.imul, 1) := by decide +kernel
theorem dX4_teller_60 : decode cX4_teller 60 = .ok (.iaload, 1) := by decide +kernel
theorem dX4_teller_61 : decode cX4_teller 61 = .ok (.iconst 2, 1) := by decide +kernel
theorem dX4_teller_62 : decode cX4_teller 62 = .ok (.if_icmp .ne 39, 3) := by decide +kernel
theorem dX4_teller_65 : decode cX4_teller 65 = .ok (.iload_n 1, 1) := by decide +kernel
theorem dX4_teller_66 : decode cX4_teller 66 = .ok (.aload_n 0, 1) := by decide +kernel
theorem dX4_teller_67 : decode cX4_teller 67 = .ok (.getfield 34, 3) := by decide +kernel
theorem dX4_teller_70 : decode cX4_teller 70 = .ok (.bipush 10, 2) := by decide +kernel
theorem dX4_teller_72 : decode cX4_teller 72 = .ok (.iload 4, 2) := by decide +kernel
theorem dX4_teller_74 : decode cX4_teller 74 = .ok (.imul, 1) := by decide +kernel
theorem dX4_teller_75 : decode cX4_teller 75 = .ok (.iconst 3, 1) := by decide +kernel
theorem dX4_teller_76 : decode cX4_teller 76 = .ok (.iadd, 1) := by decide +kernel
theorem dX4_teller_77 : decode cX4_teller 77 = .ok (.iaload, 1) := by decide +kernel
theorem dX4_teller_78 : decode cX4_teller 78 = .ok (.if_icmp .lt 23, 3) := by decide +kernel
theorem dX4_teller_81 : decode cX4_teller 81 = .ok (.aload_n 0, 1) := by decide +kernel
theorem dX4_teller_82 : decode cX4_teller 82 = .ok (.getfield 34, 3) := by decide +kernel
theorem dX4_teller_85 : decode cX4_teller 85 = .ok (.bipush 10, 2) := by decide +kernel
theorem dX4_teller_87 : decode cX4_teller 87 = .ok (.iload 4, 2) := by decide +kernel
theorem dX4_teller_89 : decode cX4_teller 89 = .ok (.imul, 1) := by decide +kernel
theorem dX4_teller_90 : decode cX4_teller 90 = .ok (.iload_n 2, 1) := by decide +kernel
theorem dX4_teller_91 : decode cX4_teller 91 = .ok (.iadd, 1) := by decide +kernel
theorem dX4_teller_92 : decode cX4_teller 92 = .ok (.iaload, 1) := by decide +kernel
theorem dX4_teller_93 : decode cX4_teller 93 = .ok (.iconst (-1), 1) := by decide +kernel
theorem dX4_teller_94 : decode cX4_teller 94 = .ok (.if_icmp .eq 7, 3) := by decide +kernel
theorem dX4_teller_97 : decode cX4_teller 97 = .ok (.iconst 1, 1) := by decide +kernel
theorem dX4_teller_98 : decode cX4_teller 98 = .ok (.goto 4, 3) := by decide +kernel
theorem dX4_teller_101 : decode cX4_teller 101 = .ok (.iconst 0, 1) := by decide +kernel
theorem dX4_teller_102 : decode cX4_teller 102 = .ok (.istore 6, 2) := by decide +kernel
theorem dX4_teller_104 : decode cX4_teller 104 = .ok (.iload 5, 2) := by decide +kernel
theorem dX4_teller_106 : decode cX4_teller 106 = .ok (.ifCond .ne 8, 3) := by decide +kernel
theorem dX4_teller_109 : decode cX4_teller 109 = .ok (.iload 6, 2) := by decide +kernel
theorem dX4_teller_111 : decode cX4_teller 111 = .ok (.ifCond .eq 8, 3) := by decide +kernel
theorem dX4_teller_114 : decode cX4_teller 114 = .ok (.iload 4, 2) := by decide +kernel
theorem dX4_teller_116 : decode cX4_teller 116 = .ok (.goto 4, 3) := by decide +kernel
theorem dX4_teller_119 : decode cX4_teller 119 = .ok (.iload_n 3, 1) := by decide +kernel
theorem dX4_teller_120 : decode cX4_teller 120 = .ok (.istore_n 3, 1) := by decide +kernel
theorem dX4_teller_121 : decode cX4_teller 121 = .ok (.iinc 4 1, 3) := by decide +kernel
theorem dX4_teller_124 : decode cX4_teller 124 = .ok (.goto (-119), 3) := by decide +kernel
theorem dX4_teller_127 : decode cX4_teller 127 = .ok (.iload_n 3, 1) := by decide +kernel
theorem dX4_teller_128 : decode cX4_teller 128 = .ok (.ireturn, 1) := by decide +kernel
theorem dX4_part_0 : decode cX4_part 0 = .ok (.iload_n 0, 1) := by decide +kernel
theorem dX4_part_1 : decode cX4_part 1 = .ok (.ifCond .ne 7, 3) := by decide +kernel
theorem dX4_part_4 : decode cX4_part 4 = .ok (.iconst 4, 1) := by decide +kernel
theorem dX4_part_5 : decode cX4_part 5 = .ok (.goto 7, 3) := by decide +kernel
theorem dX4_part_8 : decode cX4_part 8 = .ok (.bipush 6, 2) := by decide +kernel
theorem dX4_part_10 : decode cX4_part 10 = .ok (.iload_n 0, 1) := by decide +kernel
theorem dX4_part_11 : decode cX4_part 11 = .ok (.iadd, 1) := by decide +kernel
theorem dX4_part_12 : decode cX4_part 12 = .ok (.ireturn, 1) := by decide +kernel
theorem dX4_from_0 : decode cX4_from 0 = .ok (.aload_n 0, 1) := by decide +kernel
theorem dX4_from_1 : decode cX4_from 1 = .ok (.iload_n 1, 1) := by decide +kernel
theorem dX4_from_2 : decode cX4_from 2 = .ok (.invokevirtual 235, 3) := by decide +kernel
theorem dX4_from_5 : decode cX4_from 5 = .ok (.ifCond .eq 24, 3) := by decide +kernel
theorem dX4_from_8 : decode cX4_from 8 = .ok (.iload_n 2, 1) := by decide +kernel
theorem dX4_from_9 : decode cX4_from 9 = .ok (.ifCond .lt 20, 3) := by decide +kernel
theorem dX4_from_12 : decode cX4_from 12 = .ok (.iload_n 2, 1) := by decide +kernel
theorem dX4_from_13 : decode cX4_from 13 = .ok (.iconst 3, 1) := by decide +kernel
theorem dX4_from_14 : decode cX4_from 14 = .ok (.if_icmp .gt 15, 3) := by decide +kernel
theorem dX4_from_17 : decode cX4_from 17 = .ok (.aload_n 0, 1) := by decide +kernel
theorem dX4_from_18 : decode cX4_from 18 = .ok (.iload_n 1, 1) := by decide +kernel
theorem dX4_from_19 : decode cX4_from 19 = .ok (.iload_n 2, 1) := by decide +kernel
theorem dX4_from_20 : decode cX4_from 20 = .ok (.invokestatic 238, 3) := by decide +kernel
theorem dX4_from_23 : decode cX4_from 23 = .ok (.invokevirtual 241, 3) := by decide +kernel
theorem dX4_from_26 : decode cX4_from 26 = .ok (.goto 4, 3) := by decide +kernel
theorem dX4_from_29 : decode cX4_from 29 = .ok (.iconst (-1), 1) := by decide +kernel
theorem dX4_from_30 : decode cX4_from 30 = .ok (.ireturn, 1) := by decide +kernel
theorem dX4_isActive_0 : decode cX4_isActive 0 = .ok (.aload_n 0, 1) := by decide +kernel
theorem dX4_isActive_1 : decode cX4_isActive 1 = .ok (.getfield 34, 3) := by decide +kernel
theorem dX4_isActive_4 : decode cX4_isActive 4 = .ok (.bipush 10, 2) := by decide +kernel
theorem dX4_isActive_6 : decode cX4_isActive 6 = .ok (.iload_n 1, 1) := by decide +kernel
theorem dX4_isActive_7 : decode cX4_isActive 7 = .ok (.imul, 1) := by decide +kernel
theorem dX4_isActive_8 : decode cX4_isActive 8 = .ok (.iaload, 1) := by decide +kernel
theorem dX4_isActive_9 : decode cX4_isActive 9 = .ok (.iconst 3, 1) := by decide +kernel
theorem dX4_isActive_10 : decode cX4_isActive 10 = .ok (.if_icmp .lt 37, 3) := by decide +kernel
theorem dX4_isActive_13 : decode cX4_isActive 13 = .ok (.iload_n 2, 1) := by decide +kernel
theorem dX4_isActive_14 : decode cX4_isActive 14 = .ok (.aload_n 0, 1) := by decide +kernel
theorem dX4_isActive_15 : decode cX4_isActive 15 = .ok (.getfield 34, 3) := by decide +kernel
theorem dX4_isActive_18 : decode cX4_isActive 18 = .ok (.bipush 10, 2) := by decide +kernel
theorem dX4_isActive_20 : decode cX4_isActive 20 = .ok (.iload_n 1, 1) := by decide +kernel
theorem dX4_isActive_21 : decode cX4_isActive 21 = .ok (.imul, 1) := by decide +kernel
theorem dX4_isActive_22 : decode cX4_isActive 22 = .ok (.iconst 2, 1) := by decide +kernel
theorem dX4_isActive_23 : decode cX4_isActive 23 = .ok (.iadd, 1) := by decide +kernel
theorem dX4_isActive_24 : decode cX4_isActive 24 = .ok (.iaload, 1) := by decide +kernel
theorem dX4_isActive_25 : decode cX4_isActive 25 = .ok (.if_icmp .lt 22, 3) := by decide +kernel
theorem dX4_isActive_28 : decode cX4_isActive 28 = .ok (.iload_n 2, 1) := by decide +kernel
theorem dX4_isActive_29 : decode cX4_isActive 29 = .ok (.aload_n 0, 1) := by decide +kernel
theorem dX4_isActive_30 : decode cX4_isActive 30 = .ok (.getfield 34, 3) := by decide +kernel
theorem dX4_isActive_33 : decode cX4_isActive 33 = .ok (.bipush 10, 2) := by decide +kernel
theorem dX4_isActive_35 : decode cX4_isActive 35 = .ok (.iload_n 1, 1) := by decide +kernel
theorem dX4_isActive_36 : decode cX4_isActive 36 = .ok (.imul, 1) := by decide +kernel
theorem dX4_isActive_37 : decode cX4_isActive 37 = .ok (.iconst 3, 1) := by decide +kernel
theorem dX4_isActive_38 : decode cX4_isActive 38 = .ok (.iadd, 1) := by decide +kernel
theorem dX4_isActive_39 : decode cX4_isActive 39 = .ok (.iaload, 1) := by decide +kernel
theorem dX4_isActive_40 : decode cX4_isActive 40 = .ok (.if_icmp .ge 7, 3) := by decide +kernel
theorem dX4_isActive_43 : decode cX4_isActive 43 = .ok (.iconst 1, 1) := by decide +kernel
theorem dX4_isActive_44 : decode cX4_isActive 44 = .ok (.goto 4, 3) := by decide +kernel
theorem dX4_isActive_47 : decode cX4_isActive 47 = .ok (.iconst 0, 1) := by decide +kernel
theorem dX4_isActive_48 : decode cX4_isActive 48 = .ok (.ireturn, 1) := by decide +kernel
theorem dX4_active_0 : decode cX4_active 0 = .ok (.iconst 0, 1) := by decide +kernel
theorem dX4_active_1 : decode cX4_active 1 = .ok (.istore_n 2, 1) := by decide +kernel
theorem dX4_active_2 : decode cX4_active 2 = .ok (.iconst 1, 1) := by decide +kernel
theorem dX4_active_3 : decode cX4_active 3 = .ok (.istore_n 3, 1) := by decide +kernel
theorem dX4_active_4 : decode cX4_active 4 = .ok (.iload_n 3, 1) := by decide +kernel
theorem dX4_active_5 : decode cX4_active 5 = .ok (.aload_n 0, 1) := by decide +kernel
theorem dX4_active_6 : decode cX4_active 6 = .ok (.getfield 214, 3) := by decide +kernel
theorem dX4_active_9 : decode cX4_active 9 = .ok (.if_icmp .ge 34, 3) := by decide +kernel
theorem dX4_active_12 : decode cX4_active 12 = .ok (.aload_n 0, 1) := by decide +kernel
theorem dX4_active_13 : decode cX4_active 13 = .ok (.iload_n 1, 1) := by decide +kernel
theorem dX4_active_14 : decode cX4_active 14 = .ok (.invokevirtual 235, 3) := by decide +kernel
theorem dX4_active_17 : decode cX4_active 17 = .ok (.ifCond .eq 26, 3) := by decide +kernel
theorem dX4_active_20 : decode cX4_active 20 = .ok (.iload_n 2, 1) := by decide +kernel
theorem dX4_active_21 : decode cX4_active 21 = .ok (.aload_n 0, 1) := by decide +kernel
theorem dX4_active_22 : decode cX4_active 22 = .ok (.iload_n 3, 1) := by decide +kernel
theorem dX4_active_23 : decode cX4_active 23 = .ok (.iload_n 1, 1) := by decide +kernel
theorem dX4_active_24 : decode cX4_active 24 = .ok (.invokevirtual 244, 3) := by decide +kernel
theorem dX4_active_27 : decode cX4_active 27 = .ok (.ifCond .eq 7, 3) := by decide +kernel
theorem dX4_active_30 : decode cX4_active 30 = .ok (.iconst 1, 1) := by decide +kernel
theorem dX4_active_31 : decode cX4_active 31 = .ok (.goto 4, 3) := by decide +kernel
theorem dX4_active_34 : decode cX4_active 34 = .ok (.iconst 0, 1) := by decide +kernel
theorem dX4_active_35 : decode cX4_active 35 = .ok (.iadd, 1) := by decide +kernel
theorem dX4_active_36 : decode cX4_active 36 = .ok (.istore_n 2, 1) := by decide +kernel
theorem dX4_active_37 : decode cX4_active 37 = .ok (.iinc 3 1, 3) := by decide +kernel
theorem dX4_active_40 : decode cX4_active 40 = .ok (.goto (-36), 3) := by decide +kernel
theorem dX4_active_43 : decode cX4_active 43 = .ok (.aload_n 0, 1) := by decide +kernel
theorem dX4_active_44 : decode cX4_active 44 = .ok (.iload_n 1, 1) := by decide +kernel
theorem dX4_active_45 : decode cX4_active 45 = .ok (.invokevirtual 235, 3) := by decide +kernel
theorem dX4_active_48 : decode cX4_active 48 = .ok (.ifCond .eq 7, 3) := by decide +kernel
theorem dX4_active_51 : decode cX4_active 51 = .ok (.iload_n 2, 1) := by decide +kernel
theorem dX4_active_52 : decode cX4_active 52 = .ok (.goto 4, 3) := by decide +kernel
theorem dX4_active_55 : decode cX4_active 55 = .ok (.iconst (-1), 1) := by decide +kernel
theorem dX4_active_56 : decode cX4_active 56 = .ok (.ireturn, 1) := by decide +kernel
theorem dX4_activeOne_0 : decode cX4_activeOne 0 = .ok (.iconst 0, 1) := by decide +kernel
theorem dX4_activeOne_1 : decode cX4_activeOne 1 = .ok (.istore_n 3, 1) := by decide +kernel
theorem dX4_activeOne_2 : decode cX4_activeOne 2 = .ok (.iconst 1, 1) := by decide +kernel
theorem dX4_activeOne_3 : decode cX4_activeOne 3 = .ok (.istore 4, 2) := by decide +kernel
theorem dX4_activeOne_5 : decode cX4_activeOne 5 = .ok (.iload 4, 2) := by decide +kernel
theorem dX4_activeOne_7 : decode cX4_activeOne 7 = .ok (.aload_n 0, 1) := by decide +kernel
theorem dX4_activeOne_8 : decode cX4_activeOne 8 = .ok (.getfield 214, 3) := by decide +kernel
theorem dX4_activeOne_11 : decode cX4_activeOne 11 = .ok (.if_icmp .ge 52, 3) := by decide +kernel
theorem dX4_activeOne_14 : decode cX4_activeOne 14 = .ok (.aload_n 0, 1) := by decide +kernel
theorem dX4_activeOne_15 : decode cX4_activeOne 15 = .ok (.iload_n 1, 1) := by decide +kernel
theorem dX4_activeOne_16 : decode cX4_activeOne 16 = .ok (.invokevirtual 235, 3) := by decide +kernel
theorem dX4_activeOne_19 : decode cX4_activeOne 19 = .ok (.ifCond .eq 44, 3) := by decide +kernel
theorem dX4_activeOne_22 : decode cX4_activeOne 22 = .ok (.aload_n 0, 1) := by decide +kernel
theorem dX4_activeOne_23 : decode cX4_activeOne 23 = .ok (.iload 4, 2) := by decide +kernel
theorem dX4_activeOne_25 : decode cX4_activeOne 25 = .ok (.iload_n 1, 1) := by decide +kernel
theorem dX4_activeOne_26 : decode cX4_activeOne 26 = .ok (.invokevirtual 244, 3) := by decide +kernel
theorem dX4_activeOne_29 : decode cX4_activeOne 29 = .ok (.istore 5, 2) := by decide +kernel
theorem dX4_activeOne_31 : decode cX4_activeOne 31 = .ok (.iload 5, 2) := by decide +kernel
theorem dX4_activeOne_33 : decode cX4_activeOne 33 = .ok (.ifCond .eq 11, 3) := by decide +kernel
theorem dX4_activeOne_36 : decode cX4_activeOne 36 = .ok (.iload_n 3, 1) := by decide +kernel
theorem dX4_activeOne_37 : decode cX4_activeOne 37 = .ok (.iload_n 2, 1) := by decide +kernel
theorem dX4_activeOne_38 : decode cX4_activeOne 38 = .ok (.if_icmp .ne 6, 3) := by decide +kernel
theorem dX4_activeOne_41 : decode cX4_activeOne 41 = .ok (.iload 4, 2) := by decide +kernel
theorem dX4_activeOne_43 : decode cX4_activeOne 43 = .ok (.ireturn, 1) := by decide +kernel
theorem dX4_activeOne_44 : decode cX4_activeOne 44 = .ok (.iload_n 3, 1) := by decide +kernel
theorem dX4_activeOne_45 : decode cX4_activeOne 45 = .ok (.iload 5, 2) := by decide +kernel
theorem dX4_activeOne_47 : decode cX4_activeOne 47 = .ok (.ifCond .eq 7, 3) := by decide +kernel
theorem dX4_activeOne_50 : decode cX4_activeOne 50 = .ok (.iconst 1, 1) := by decide +kernel
theorem dX4_activeOne_51 : decode cX4_activeOne 51 = .ok (.goto 4, 3) := by decide +kernel
theorem dX4_activeOne_54 : decode cX4_activeOne 54 = .ok (.iconst 0, 1) := by decide +kernel
theorem dX4_activeOne_55 : decode cX4_activeOne 55 = .ok (.iadd, 1) := by decide +kernel
theorem dX4_activeOne_56 : decode cX4_activeOne 56 = .ok (.istore_n 3, 1) := by decide +kernel
theorem dX4_activeOne_57 : decode cX4_activeOne 57 = .ok (.iinc 4 1, 3) := by decide +kernel
theorem dX4_activeOne_60 : decode cX4_activeOne 60 = .ok (.goto (-55), 3) := by decide +kernel
theorem dX4_activeOne_63 : decode cX4_activeOne 63 = .ok (.iconst (-1), 1) := by decide +kernel
theorem dX4_activeOne_64 : decode cX4_activeOne 64 = .ok (.ireturn, 1) := by decide +kernel
theorem dX4_least_0 : decode cX4_least 0 = .ok (.aload_n 0, 1) := by decide +kernel
theorem dX4_least_1 : decode cX4_least 1 = .ok (.iload_n 1, 1) := by decide +kernel
theorem dX4_least_2 : decode cX4_least 2 = .ok (.invokevirtual 235, 3) := by decide +kernel
theorem dX4_least_5 : decode cX4_least 5 = .ok (.ifCond .ne 5, 3) := by decide +kernel
theorem dX4_least_8 : decode cX4_least 8 = .ok (.iconst (-1), 1) := by decide +kernel
theorem dX4_least_9 : decode cX4_least 9 = .ok (.ireturn, 1) := by decide +kernel
theorem dX4_least_10 : decode cX4_least 10 = .ok (.aload_n 0, 1) := by decide +kernel
theorem dX4_least_11 : decode cX4_least 11 = .ok (.getfield 34, 3) := by decide +kernel
theorem dX4_least_14 : decode cX4_least 14 = .ok (.bipush 10, 2) := by decide +kernel
theorem dX4_least_16 : decode cX4_least 16 = .ok (.aload_n 0, 1) := by decide +kernel
theorem dX4_least_17 : decode cX4_least 17 = .ok (.iload_n 1, 1) := by decide +kernel
theorem dX4_least_18 : decode cX4_least 18 = .ok (.bipush 7, 2) := by decide +kernel
theorem dX4_least_20 : decode cX4_least 20 = .ok (.invokevirtual 241, 3) := by decide +kernel
theorem dX4_least_23 : decode cX4_least 23 = .ok (.imul, 1) := by decide +kernel
theorem dX4_least_24 : decode cX4_least 24 = .ok (.bipush 7, 2) := by decide +kernel
theorem dX4_least_26 : decode cX4_least 26 = .ok (.iadd, 1) := by decide +kernel
theorem dX4_least_27 : decode cX4_least 27 = .ok (.iaload, 1) := by decide +kernel
theorem dX4_least_28 : decode cX4_least 28 = .ok (.istore_n 2, 1) := by decide +kernel
theorem dX4_least_29 : decode cX4_least 29 = .ok (.iconst 1, 1) := by decide +kernel
theorem dX4_least_30 : decode cX4_least 30 = .ok (.istore_n 3, 1) := by decide +kernel
theorem dX4_least_31 : decode cX4_least 31 = .ok (.iload_n 3, 1) := by decide +kernel
theorem dX4_least_32 : decode cX4_least 32 = .ok (.aload_n 0, 1) := by decide +kernel
theorem dX4_least_33 : decode cX4_least 33 = .ok (.getfield 214, 3) := by decide +kernel
theorem dX4_least_36 : decode cX4_least 36 = .ok (.if_icmp .ge 51, 3) := by decide +kernel
theorem dX4_least_39 : decode cX4_least 39 = .ok (.aload_n 0, 1) := by decide +kernel
theorem dX4_least_40 : decode cX4_least 40 = .ok (.getfield 34, 3) := by decide +kernel
theorem dX4_least_43 : decode cX4_least 43 = .ok (.bipush 10, 2) := by decide +kernel
theorem dX4_least_45 : decode cX4_least 45 = .ok (.iload_n 3, 1) := by decide +kernel
theorem dX4_least_46 : decode cX4_least 46 = .ok (.imul, 1) := by decide +kernel
theorem dX4_least_47 : decode cX4_least 47 = .ok (.bipush 7, 2) := by decide +kernel
theorem dX4_least_49 : decode cX4_least 49 = .ok (.iadd, 1) := by decide +kernel
theorem dX4_least_50 : decode cX4_least 50 = .ok (.iaload, 1) := by decide +kernel
theorem dX4_least_51 : decode cX4_least 51 = .ok (.istore 4, 2) := by decide +kernel
theorem dX4_least_53 : decode cX4_least 53 = .ok (.aload_n 0, 1) := by decide +kernel
theorem dX4_least_54 : decode cX4_least 54 = .ok (.iload_n 3, 1) := by decide +kernel
theorem dX4_least_55 : decode cX4_least 55 = .ok (.iload_n 1, 1) := by decide +kernel
theorem dX4_least_56 : decode cX4_least 56 = .ok (.invokevirtual 244, 3) := by decide +kernel
theorem dX4_least_59 : decode cX4_least 59 = .ok (.ifCond .eq 20, 3) := by decide +kernel
theorem dX4_least_62 : decode cX4_least 62 = .ok (.iload 4, 2) := by decide +kernel
theorem dX4_least_64 : decode cX4_least 64 = .ok (.iconst (-1), 1) := by decide +kernel
theorem dX4_least_65 : decode cX4_least 65 = .ok (.if_icmp .eq 14, 3) := by decide +kernel
theorem dX4_least_68 : decode cX4_least 68 = .ok (.iload 4, 2) := by decide +kernel
theorem dX4_least_70 : decode cX4_least 70 = .ok (.iload_n 2, 1) := by decide +kernel
theorem dX4_least_71 : decode cX4_least 71 = .ok (.if_icmp .ge 8, 3) := by decide +kernel
theorem dX4_least_74 : decode cX4_least 74 = .ok (.iload 4, 2) := by decide +kernel
theorem dX4_least_76 : decode cX4_least 76 = .ok (.goto 4, 3) := by decide +kernel
theorem dX4_least_79 : decode cX4_least 79 = .ok (.iload_n 2, 1) := by decide +kernel
theorem dX4_least_80 : decode cX4_least 80 = .ok (.istore_n 2, 1) := by decide +kernel
theorem dX4_least_81 : decode cX4_least 81 = .ok (.iinc 3 1, 3) := by decide +kernel
theorem dX4_least_84 : decode cX4_least 84 = .ok (.goto (-53), 3) := by decide +kernel
theorem dX4_least_87 : decode cX4_least 87 = .ok (.iload_n 2, 1) := by decide +kernel
theorem dX4_least_88 : decode cX4_least 88 = .ok (.ireturn, 1) := by decide +kernel
theorem dX4_lowest_0 : decode cX4_lowest 0 = .ok (.iload_n 2, 1) := by decide +kernel
theorem dX4_lowest_1 : decode cX4_lowest 1 = .ok (.istore_n 3, 1) := by decide +kernel
theorem dX4_lowest_2 : decode cX4_lowest 2 = .ok (.iconst 0, 1) := by decide +kernel
theorem dX4_lowest_3 : decode cX4_lowest 3 = .ok (.istore 4, 2) := by decide +kernel
theorem dX4_lowest_5 : decode cX4_lowest 5 = .ok (.iload 4, 2) := by decide +kernel
theorem dX4_lowest_7 : decode cX4_lowest 7 = .ok (.aload_n 0, 1) := by decide +kernel
theorem dX4_lowest_8 : decode cX4_lowest 8 = .ok (.getfield 34, 3) := by decide +kernel
theorem dX4_lowest_11 : decode cX4_lowest 11 = .ok (.bipush 10, 2) := by decide +kernel
theorem dX4_lowest_13 : decode cX4_lowest 13 = .ok (.iload_n 1, 1) := by decide +kernel
theorem dX4_lowest_14 : decode cX4_lowest 14 = .ok (.imul, 1) := by decide +kernel
theorem dX4_lowest_15 : decode cX4_lowest 15 = .ok (.bipush 9, 2) := by decide +kernel
theorem dX4_lowest_17 : decode cX4_lowest 17 = .ok (.iadd, 1) := by decide +kernel
theorem dX4_lowest_18 : decode cX4_lowest 18 = .ok (.iaload, 1) := by decide +kernel
theorem dX4_lowest_19 : decode cX4_lowest 19 = .ok (.if_icmp .ge 55, 3) := by decide +kernel
theorem dX4_lowest_22 : decode cX4_lowest 22 = .ok (.aload_n 0, 1) := by decide +kernel
theorem dX4_lowest_23 : decode cX4_lowest 23 = .ok (.getfield 40, 3) := by decide +kernel
theorem dX4_lowest_26 : decode cX4_lowest 26 = .ok (.iconst 4, 1) := by decide +kernel
theorem dX4_lowest_27 : decode cX4_lowest 27 = .ok (.iload_n 1, 1) := by decide +kernel
theorem dX4_lowest_28 : decode cX4_lowest 28 = .ok (.imul, 1) := by decide +kernel
theorem dX4_lowest_29 : decode cX4_lowest 29 = .ok (.iload 4, 2) := by decide +kernel
theorem dX4_lowest_31 : decode cX4_lowest 31 = .ok (.iadd, 1) := by decide +kernel
theorem dX4_lowest_32 : decode cX4_lowest 32 = .ok (.iaload, 1) := by decide +kernel
theorem dX4_lowest_33 : decode cX4_lowest 33 = .ok (.istore 5, 2) := by decide +kernel
theorem dX4_lowest_35 : decode cX4_lowest 35 = .ok (.iload 5, 2) := by decide +kernel
theorem dX4_lowest_37 : decode cX4_lowest 37 = .ok (.sipush 8192, 3) := by decide +kernel
theorem dX4_lowest_40 : decode cX4_lowest 40 = .ok (.irem, 1) := by decide +kernel
theorem dX4_lowest_41 : decode cX4_lowest 41 = .ok (.bipush 8, 2) := by decide +kernel
theorem dX4_lowest_43 : decode cX4_lowest 43 = .ok (.idiv, 1) := by decide +kernel
theorem dX4_lowest_44 : decode cX4_lowest 44 = .ok (.istore 6, 2) := by decide +kernel
theorem dX4_lowest_46 : decode cX4_lowest 46 = .ok (.iload 5, 2) := by decide +kernel
theorem dX4_lowest_48 : decode cX4_lowest 48 = .ok (.bipush 8, 2) := by decide +kernel
theorem dX4_lowest_50 : decode cX4_lowest 50 = .ok (.irem, 1) := by decide +kernel
theorem dX4_lowest_51 : decode cX4_lowest 51 = .ok (.iconst 3, 1) := by decide +kernel
theorem dX4_lowest_52 : decode cX4_lowest 52 = .ok (.if_icmp .lt 14, 3) := by decide +kernel
theorem dX4_lowest_55 : decode cX4_lowest 55 = .ok (.iload 6, 2) := by decide +kernel
theorem dX4_lowest_57 : decode cX4_lowest 57 = .ok (.iload_n 3, 1) := by decide +kernel
theorem dX4_lowest_58 : decode cX4_lowest 58 = .ok (.if_icmp .ge 8, 3) := by decide +kernel
theorem dX4_lowest_61 : decode cX4_lowest 61 = .ok (.iload 6, 2) := by decide +kernel
theorem dX4_lowest_63 : decode cX4_lowest 63 = .ok (.goto 4, 3) := by decide +kernel
theorem dX4_lowest_66 : decode cX4_lowest 66 = .ok (.iload_n 3, 1) := by decide +kernel
theorem dX4_lowest_67 : decode cX4_lowest 67 = .ok (.istore_n 3, 1) := by decide +kernel
theorem dX4_lowest_68 : decode cX4_lowest 68 = .ok (.iinc 4 1, 3) := by decide +kernel
theorem dX4_lowest_71 : decode cX4_lowest 71 = .ok (.goto (-66), 3) := by decide +kernel
theorem dX4_lowest_74 : decode cX4_lowest 74 = .ok (.iload_n 3, 1) := by decide +kernel
theorem dX4_lowest_75 : decode cX4_lowest 75 = .ok (.ireturn, 1) := by decide +kernel
theorem dX4_ceiling_0 : decode cX4_ceiling 0 = .ok (.aload_n 0, 1) := by decide +kernel
theorem dX4_ceiling_1 : decode cX4_ceiling 1 = .ok (.iload_n 1, 1) := by decide +kernel
theorem dX4_ceiling_2 : decode cX4_ceiling 2 = .ok (.invokevirtual 235, 3) := by decide +kernel
theorem dX4_ceiling_5 : decode cX4_ceiling 5 = .ok (.ifCond .eq 12, 3) := by decide +kernel
theorem dX4_ceiling_8 : decode cX4_ceiling 8 = .ok (.iload_n 2, 1) := by decide +kernel
theorem dX4_ceiling_9 : decode cX4_ceiling 9 = .ok (.ifCond .lt 8, 3) := by decide +kernel
theorem dX4_ceiling_12 : decode cX4_ceiling 12 = .ok (.iload_n 2, 1) := by decide +kernel
theorem dX4_ceiling_13 : decode cX4_ceiling 13 = .ok (.iconst 1, 1) := by decide +kernel
theorem dX4_ceiling_14 : decode cX4_ceiling 14 = .ok (.if_icmp .le 5, 3) := by decide +kernel
theorem dX4_ceiling_17 : decode cX4_ceiling 17 = .ok (.iconst (-1), 1) := by decide +kernel
theorem dX4_ceiling_18 : decode cX4_ceiling 18 = .ok (.ireturn, 1) := by decide +kernel
theorem dX4_ceiling_19 : decode cX4_ceiling 19 = .ok (.aload_n 0, 1) := by decide +kernel
theorem dX4_ceiling_20 : decode cX4_ceiling 20 = .ok (.aload_n 0, 1) := by decide +kernel
theorem dX4_ceiling_21 : decode cX4_ceiling 21 = .ok (.iload_n 1, 1) := by decide +kernel
theorem dX4_ceiling_22 : decode cX4_ceiling 22 = .ok (.bipush 9, 2) := by decide +kernel
theorem dX4_ceiling_24 : decode cX4_ceiling 24 = .ok (.invokevirtual 241, 3) := by decide +kernel
theorem dX4_ceiling_27 : decode cX4_ceiling 27 = .ok (.sipush 1000, 3) := by decide +kernel
theorem dX4_ceiling_30 : decode cX4_ceiling 30 = .ok (.invokevirtual 247, 3) := by decide +kernel
theorem dX4_ceiling_33 : decode cX4_ceiling 33 = .ok (.istore_n 3, 1) := by decide +kernel
theorem dX4_ceiling_34 : decode cX4_ceiling 34 = .ok (.iconst 1, 1) := by decide +kernel
theorem dX4_ceiling_35 : decode cX4_ceiling 35 = .ok (.istore 4, 2) := by decide +kernel
theorem dX4_ceiling_37 : decode cX4_ceiling 37 = .ok (.iload 4, 2) := by decide +kernel
theorem dX4_ceiling_39 : decode cX4_ceiling 39 = .ok (.aload_n 0, 1) := by decide +kernel
theorem dX4_ceiling_40 : decode cX4_ceiling 40 = .ok (.getfield 214, 3) := by decide +kernel
theorem dX4_ceiling_43 : decode cX4_ceiling 43 = .ok (.if_icmp .ge 36, 3) := by decide +kernel
theorem dX4_ceiling_46 : decode cX4_ceiling 46 = .ok (.iload_n 2, 1) := by decide +kernel
theorem dX4_ceiling_47 : decode cX4_ceiling 47 = .ok (.iconst 1, 1) := by decide +kernel
theorem dX4_ceiling_48 : decode cX4_ceiling 48 = .ok (.if_icmp .ne 31, 3) := by decide +kernel
theorem dX4_ceiling_51 : decode cX4_ceiling 51 = .ok (.aload_n 0, 1) := by decide +kernel
theorem dX4_ceiling_52 : decode cX4_ceiling 52 = .ok (.iload 4, 2) := by decide +kernel
theorem dX4_ceiling_54 : decode cX4_ceiling 54 = .ok (.iload_n 1, 1) := by decide +kernel
theorem dX4_ceiling_55 : decode cX4_ceiling 55 = .ok (.invokevirtual 244, 3) := by decide +kernel
theorem dX4_ceiling_58 : decode cX4_ceiling 58 = .ok (.ifCond .eq 13, 3) := by decide +kernel
theorem dX4_ceiling_61 : decode cX4_ceiling 61 = .ok (.aload_n 0, 1) := by decide +kernel
theorem dX4_ceiling_62 : decode cX4_ceiling 62 = .ok (.iload 4, 2) := by decide +kernel
theorem dX4_ceiling_64 : decode cX4_ceiling 64 = .ok (.iload_n 3, 1) := by decide +kernel
theorem dX4_ceiling_65 : decode cX4_ceiling 65 = .ok (.invokevirtual 247, 3) := by decide +kernel
theorem dX4_ceiling_68 : decode cX4_ceiling 68 = .ok (.goto 4, 3) := by decide +kernel
theorem dX4_ceiling_71 : decode cX4_ceiling 71 = .ok (.iload_n 3, 1) := by decide +kernel
theorem dX4_ceiling_72 : decode cX4_ceiling 72 = .ok (.istore_n 3, 1) := by decide +kernel
theorem dX4_ceiling_73 : decode cX4_ceiling 73 = .ok (.iinc 4 1, 3) := by decide +kernel
theorem dX4_ceiling_76 : decode cX4_ceiling 76 = .ok (.goto (-39), 3) := by decide +kernel
theorem dX4_ceiling_79 : decode cX4_ceiling 79 = .ok (.iload_n 3, 1) := by decide +kernel
theorem dX4_ceiling_80 : decode cX4_ceiling 80 = .ok (.sipush 1000, 3) := by decide +kernel
theorem dX4_ceiling_83 : decode cX4_ceiling 83 = .ok (.if_icmp .ne 8, 3) := by decide +kernel
theorem dX4_ceiling_86 : decode cX4_ceiling 86 = .ok (.bipush (-2), 2) := by decide +kernel
theorem dX4_ceiling_88 : decode cX4_ceiling 88 = .ok (.goto 4, 3) := by decide +kernel
theorem dX4_ceiling_91 : decode cX4_ceiling 91 = .ok (.iload_n 3, 1) := by decide +kernel
theorem dX4_ceiling_92 : decode cX4_ceiling 92 = .ok (.ireturn, 1) := by decide +kernel
theorem dX4_isOther_0 : decode cX4_isOther 0 = .ok (.iconst 0, 1) := by decide +kernel
theorem dX4_isOther_1 : decode cX4_isOther 1 = .ok (.istore_n 2, 1) := by decide +kernel
theorem dX4_isOther_2 : decode cX4_isOther 2 = .ok (.iconst 0, 1) := by decide +kernel
theorem dX4_isOther_3 : decode cX4_isOther 3 = .ok (.istore_n 3, 1) := by decide +kernel
theorem dX4_isOther_4 : decode cX4_isOther 4 = .ok (.iload_n 3, 1) := by decide +kernel
theorem dX4_isOther_5 : decode cX4_isOther 5 = .ok (.iconst 4, 1) := by decide +kernel
theorem dX4_isOther_6 : decode cX4_isOther 6 = .ok (.if_icmp .ge 42, 3) := by decide +kernel
theorem dX4_isOther_9 : decode cX4_isOther 9 = .ok (.iload_n 2, 1) := by decide +kernel
theorem dX4_isOther_10 : decode cX4_isOther 10 = .ok (.ifCond .ne 26, 3) := by decide +kernel
theorem dX4_isOther_13 : decode cX4_isOther 13 = .ok (.aload_n 0, 1) := by decide +kernel
theorem dX4_isOther_14 : decode cX4_isOther 14 = .ok (.iload_n 1, 1) := by decide +kernel
theorem dX4_isOther_15 : decode cX4_isOther 15 = .ok (.iload_n 3, 1) := by decide +kernel
theorem dX4_isOther_16 : decode cX4_isOther 16 = .ok (.invokestatic 238, 3) := by decide +kernel
theorem dX4_isOther_19 : decode cX4_isOther 19 = .ok (.invokevirtual 241, 3) := by decide +kernel
theorem dX4_isOther_22 : decode cX4_isOther 22 = .ok (.aload_n 0, 1) := by decide +kernel
theorem dX4_isOther_23 : decode cX4_isOther 23 = .ok (.iload_n 1, 1) := by decide +kernel
theorem dX4_isOther_24 : decode cX4_isOther 24 = .ok (.iconst 1, 1) := by decide +kernel
theorem dX4_isOther_25 : decode cX4_isOther 25 = .ok (.isub, 1) := by decide +kernel
theorem dX4_isOther_26 : decode cX4_isOther 26 = .ok (.iload_n 3, 1) := by decide +kernel
theorem dX4_isOther_27 : decode cX4_isOther 27 = .ok (.invokestatic 238, 3) := by decide +kernel
theorem dX4_isOther_30 : decode cX4_isOther 30 = .ok (.invokevirtual 241, 3) := by decide +kernel
theorem dX4_isOther_33 : decode cX4_isOther 33 = .ok (.if_icmp .eq 7, 3) := by decide +kernel
theorem dX4_isOther_36 : decode cX4_isOther 36 = .ok (.iconst 1, 1) := by decide +kernel
theorem dX4_isOther_37 : decode cX4_isOther 37 = .ok (.goto 4, 3) := by decide +kernel
theorem dX4_isOther_40 : decode cX4_isOther 40 = .ok (.iconst 0, 1) := by decide +kernel
theorem dX4_isOther_41 : decode cX4_isOther 41 = .ok (.istore_n 2, 1) := by decide +kernel
theorem dX4_isOther_42 : decode cX4_isOther 42 = .ok (.iinc 3 1, 3) := by decide +kernel
theorem dX4_isOther_45 : decode cX4_isOther 45 = .ok (.goto (-41), 3) := by decide +kernel
theorem dX4_isOther_48 : decode cX4_isOther 48 = .ok (.iconst 1, 1) := by decide +kernel
theorem dX4_isOther_49 : decode cX4_isOther 49 = .ok (.istore_n 3, 1) := by decide +kernel
theorem dX4_isOther_50 : decode cX4_isOther 50 = .ok (.iload_n 3, 1) := by decide +kernel
theorem dX4_isOther_51 : decode cX4_isOther 51 = .ok (.aload_n 0, 1) := by decide +kernel
theorem dX4_isOther_52 : decode cX4_isOther 52 = .ok (.getfield 214, 3) := by decide +kernel
theorem dX4_isOther_55 : decode cX4_isOther 55 = .ok (.if_icmp .ge 36, 3) := by decide +kernel
theorem dX4_isOther_58 : decode cX4_isOther 58 = .ok (.iload_n 2, 1) := by decide +kernel
theorem dX4_isOther_59 : decode cX4_isOther 59 = .ok (.ifCond .ne 20, 3) := by decide +kernel
theorem dX4_isOther_62 : decode cX4_isOther 62 = .ok (.aload_n 0, 1) := by decide +kernel
theorem dX4_isOther_63 : decode cX4_isOther 63 = .ok (.iload_n 3, 1) := by decide +kernel
theorem dX4_isOther_64 : decode cX4_isOther 64 = .ok (.iload_n 1, 1) := by decide +kernel
theorem dX4_isOther_65 : decode cX4_isOther 65 = .ok (.invokevirtual 244, 3) := by decide +kernel
theorem dX4_isOther_68 : decode cX4_isOther 68 = .ok (.aload_n 0, 1) := by decide +kernel
theorem dX4_isOther_69 : decode cX4_isOther 69 = .ok (.iload_n 3, 1) := by decide +kernel
theorem dX4_isOther_70 : decode cX4_isOther 70 = .ok (.iload_n 1, 1) := by decide +kernel
theorem dX4_isOther_71 : decode cX4_isOther 71 = .ok (.iconst 1, 1) := by decide +kernel
theorem dX4_isOther_72 : decode cX4_isOther 72 = .ok (.isub, 1) := by decide +kernel
theorem dX4_isOther_73 : decode cX4_isOther 73 = .ok (.invokevirtual 244, 3) := by decide +kernel
theorem dX4_isOther_76 : decode cX4_isOther 76 = .ok (.if_icmp .eq 7, 3) := by decide +kernel
theorem dX4_isOther_79 : decode cX4_isOther 79 = .ok (.iconst 1, 1) := by decide +kernel
theorem dX4_isOther_80 : decode cX4_isOther 80 = .ok (.goto 4, 3) := by decide +kernel
theorem dX4_isOther_83 : decode cX4_isOther 83 = .ok (.iconst 0, 1) := by decide +kernel
theorem dX4_isOther_84 : decode cX4_isOther 84 = .ok (.istore_n 2, 1) := by decide +kernel
theorem dX4_isOther_85 : decode cX4_isOther 85 = .ok (.iinc 3 1, 3) := by decide +kernel
theorem dX4_isOther_88 : decode cX4_isOther 88 = .ok (.goto (-38), 3) := by decide +kernel
theorem dX4_isOther_91 : decode cX4_isOther 91 = .ok (.iload_n 2, 1) := by decide +kernel
theorem dX4_isOther_92 : decode cX4_isOther 92 = .ok (.ireturn, 1) := by decide +kernel
theorem dX4_next_0 : decode cX4_next 0 = .ok (.aload_n 0, 1) := by decide +kernel
theorem dX4_next_1 : decode cX4_next 1 = .ok (.iload_n 1, 1) := by decide +kernel
theorem dX4_next_2 : decode cX4_next 2 = .ok (.invokevirtual 235, 3) := by decide +kernel
theorem dX4_next_5 : decode cX4_next 5 = .ok (.ifCond .ne 5, 3) := by decide +kernel
theorem dX4_next_8 : decode cX4_next 8 = .ok (.iconst (-1), 1) := by decide +kernel
theorem dX4_next_9 : decode cX4_next 9 = .ok (.ireturn, 1) := by decide +kernel
theorem dX4_next_10 : decode cX4_next 10 = .ok (.iload_n 1, 1) := by decide +kernel
theorem dX4_next_11 : decode cX4_next 11 = .ok (.iconst 1, 1) := by decide +kernel
theorem dX4_next_12 : decode cX4_next 12 = .ok (.iadd, 1) := by decide +kernel
theorem dX4_next_13 : decode cX4_next 13 = .ok (.istore_n 2, 1) := by decide +kernel
theorem dX4_next_14 : decode cX4_next 14 = .ok (.iload_n 2, 1) := by decide +kernel
theorem dX4_next_15 : decode cX4_next 15 = .ok (.aload_n 0, 1) := by decide +kernel
theorem dX4_next_16 : decode cX4_next 16 = .ok (.getfield 34, 3) := by decide +kernel
theorem dX4_next_19 : decode cX4_next 19 = .ok (.iconst 3, 1) := by decide +kernel
theorem dX4_next_20 : decode cX4_next 20 = .ok (.iaload, 1) := by decide +kernel
theorem dX4_next_21 : decode cX4_next 21 = .ok (.if_icmp .ge 19, 3) := by decide +kernel
theorem dX4_next_24 : decode cX4_next 24 = .ok (.aload_n 0, 1) := by decide +kernel
theorem dX4_next_25 : decode cX4_next 25 = .ok (.iload_n 2, 1) := by decide +kernel
theorem dX4_next_26 : decode cX4_next 26 = .ok (.invokevirtual 250, 3) := by decide +kernel
theorem dX4_next_29 : decode cX4_next 29 = .ok (.ifCond .eq 5, 3) := by decide +kernel
theorem dX4_next_32 : decode cX4_next 32 = .ok (.iload_n 2, 1) := by decide +kernel
theorem dX4_next_33 : decode cX4_next 33 = .ok (.ireturn, 1) := by decide +kernel
theorem dX4_next_34 : decode cX4_next 34 = .ok (.iinc 2 1, 3) := by decide +kernel
theorem dX4_next_37 : decode cX4_next 37 = .ok (.goto (-23), 3) := by decide +kernel
theorem dX4_next_40 : decode cX4_next 40 = .ok (.iconst (-1), 1) := by decide +kernel
theorem dX4_next_41 : decode cX4_next 41 = .ok (.ireturn, 1) := by decide +kernel
theorem dX4_print_0 : decode cX4_print 0 = .ok (.aload_n 0, 1) := by decide +kernel
theorem dX4_print_1 : decode cX4_print 1 = .ok (.aload_n 0, 1) := by decide +kernel
theorem dX4_print_2 : decode cX4_print 2 = .ok (.getfield 211, 3) := by decide +kernel
theorem dX4_print_5 : decode cX4_print 5 = .ok (.ifCond .ne 7, 3) := by decide +kernel
theorem dX4_print_8 : decode cX4_print 8 = .ok (.iconst 0, 1) := by decide +kernel
theorem dX4_print_9 : decode cX4_print 9 = .ok (.goto 7, 3) := by decide +kernel
theorem dX4_print_12 : decode cX4_print 12 = .ok (.aload_n 0, 1) := by decide +kernel
theorem dX4_print_13 : decode cX4_print 13 = .ok (.getfield 229, 3) := by decide +kernel
theorem dX4_print_16 : decode cX4_print 16 = .ok (.putfield 253, 3) := by decide +kernel
theorem dX4_print_19 : decode cX4_print 19 = .ok (.iconst 0, 1) := by decide +kernel
theorem dX4_print_20 : decode cX4_print 20 = .ok (.istore_n 1, 1) := by decide +kernel
theorem dX4_print_21 : decode cX4_print 21 = .ok (.iload_n 1, 1) := by decide +kernel
theorem dX4_print_22 : decode cX4_print 22 = .ok (.aload_n 0, 1) := by decide +kernel
theorem dX4_print_23 : decode cX4_print 23 = .ok (.getfield 253, 3) := by decide +kernel
theorem dX4_print_26 : decode cX4_print 26 = .ok (.if_icmp .ge 21, 3) := by decide +kernel
theorem dX4_print_29 : decode cX4_print 29 = .ok (.aload_n 0, 1) := by decide +kernel
theorem dX4_print_30 : decode cX4_print 30 = .ok (.getfield 46, 3) := by decide +kernel
theorem dX4_print_33 : decode cX4_print 33 = .ok (.iload_n 1, 1) := by decide +kernel
theorem dX4_print_34 : decode cX4_print 34 = .ok (.aload_n 0, 1) := by decide +kernel
theorem dX4_print_35 : decode cX4_print 35 = .ok (.getfield 43, 3) := by decide +kernel
theorem dX4_print_38 : decode cX4_print 38 = .ok (.iload_n 1, 1) := by decide +kernel
theorem dX4_print_39 : decode cX4_print 39 = .ok (.iaload, 1) := by decide +kernel
theorem dX4_print_40 : decode cX4_print 40 = .ok (.iastore, 1) := by decide +kernel
theorem dX4_print_41 : decode cX4_print 41 = .ok (.iinc 1 1, 3) := by decide +kernel
theorem dX4_print_44 : decode cX4_print 44 = .ok (.goto (-23), 3) := by decide +kernel
theorem dX4_print_47 : decode cX4_print 47 = .ok (.aload_n 0, 1) := by decide +kernel
theorem dX4_print_48 : decode cX4_print 48 = .ok (.getfield 253, 3) := by decide +kernel
theorem dX4_print_51 : decode cX4_print 51 = .ok (.ireturn, 1) := by decide +kernel
theorem dX4_character_0 : decode cX4_character 0 = .ok (.iload_n 1, 1) := by decide +kernel
theorem dX4_character_1 : decode cX4_character 1 = .ok (.ifCond .lt 20, 3) := by decide +kernel
theorem dX4_character_4 : decode cX4_character 4 = .ok (.iload_n 1, 1) := by decide +kernel
theorem dX4_character_5 : decode cX4_character 5 = .ok (.aload_n 0, 1) := by decide +kernel
theorem dX4_character_6 : decode cX4_character 6 = .ok (.getfield 253, 3) := by decide +kernel
theorem dX4_character_9 : decode cX4_character 9 = .ok (.if_icmp .ge 12, 3) := by decide +kernel
theorem dX4_character_12 : decode cX4_character 12 = .ok (.aload_n 0, 1) := by decide +kernel
theorem dX4_character_13 : decode cX4_character 13 = .ok (.getfield 46, 3) := by decide +kernel
theorem dX4_character_16 : decode cX4_character 16 = .ok (.iload_n 1, 1) := by decide +kernel
theorem dX4_character_17 : decode cX4_character 17 = .ok (.iaload, 1) := by decide +kernel
theorem dX4_character_18 : decode cX4_character 18 = .ok (.goto 4, 3) := by decide +kernel
theorem dX4_character_21 : decode cX4_character 21 = .ok (.iconst (-1), 1) := by decide +kernel
theorem dX4_character_22 : decode cX4_character 22 = .ok (.ireturn, 1) := by decide +kernel
theorem dX4_check_0 : decode cX4_check 0 = .ok (.iconst 1, 1) := by decide +kernel
theorem dX4_check_1 : decode cX4_check 1 = .ok (.ireturn, 1) := by decide +kernel
theorem dL_law_0 : decode cL_law 0 = .ok (.new 7, 3) := by decide +kernel
theorem dL_law_3 : decode cL_law 3 = .ok (.dup, 1) := by decide +kernel
theorem dL_law_4 : decode cL_law 4 = .ok (.invokespecial 9, 3) := by decide +kernel
theorem dL_law_7 : decode cL_law 7 = .ok (.astore_n 1, 1) := by decide +kernel
theorem dL_law_8 : decode cL_law 8 = .ok (.new 10, 3) := by decide +kernel
theorem dL_law_11 : decode cL_law 11 = .ok (.dup, 1) := by decide +kernel
theorem dL_law_12 : decode cL_law 12 = .ok (.invokespecial 12, 3) := by decide +kernel
theorem dL_law_15 : decode cL_law 15 = .ok (.astore_n 2, 1) := by decide +kernel
theorem dL_law_16 : decode cL_law 16 = .ok (.iconst 0, 1) := by decide +kernel
theorem dL_law_17 : decode cL_law 17 = .ok (.istore_n 3, 1) := by decide +kernel
theorem dL_law_18 : decode cL_law 18 = .ok (.iload_n 3, 1) := by decide +kernel
theorem dL_law_19 : decode cL_law 19 = .ok (.aload_n 0, 1) := by decide +kernel
theorem dL_law_20 : decode cL_law 20 = .ok (.arraylength, 1) := by decide +kernel
theorem dL_law_21 : decode cL_law 21 = .ok (.iconst 4, 1) := by decide +kernel
theorem dL_law_22 : decode cL_law 22 = .ok (.isub, 1) := by decide +kernel
theorem dL_law_23 : decode cL_law 23 = .ok (.if_icmp .gt 516, 3) := by decide +kernel
theorem dL_law_26 : decode cL_law 26 = .ok (.aload_n 0, 1) := by decide +kernel
theorem dL_law_27 : decode cL_law 27 = .ok (.iload_n 3, 1) := by decide +kernel
theorem dL_law_28 : decode cL_law 28 = .ok (.iaload, 1) := by decide +kernel
theorem dL_law_29 : decode cL_law 29 = .ok (.bipush 15, 2) := by decide +kernel
theorem dL_law_31 : decode cL_law 31 = .ok (.iand, 1) := by decide +kernel
theorem dL_law_32 : decode cL_law 32 = .ok (.tableswitch 501 0 14 #[76, 139, 162, 185, 218, 251, 284, 317, 340, 373, 396, 429, 452, 465, 488], 76) := by decide +kernel
theorem dL_law_108 : decode cL_law 108 = .ok (.aload_n 1, 1) := by decide +kernel
theorem dL_law_109 : decode cL_law 109 = .ok (.aload_n 0, 1) := by decide +kernel
theorem dL_law_110 : decode cL_law 110 = .ok (.iload_n 3, 1) := by decide +kernel
theorem dL_law_111 : decode cL_law 111 = .ok (.iconst 1, 1) := by decide +kernel
theorem dL_law_112 : decode cL_law 112 = .ok (.iadd, 1) := by decide +kernel
theorem dL_law_113 : decode cL_law 113 = .ok (.iaload, 1) := by decide +kernel
theorem dL_law_114 : decode cL_law 114 = .ok (.i2l, 1) := by decide +kernel
theorem dL_law_115 : decode cL_law 115 = .ok (.bipush 32, 2) := by decide +kernel
theorem dL_law_117 : decode cL_law 117 = .ok (.lshl, 1) := by decide +kernel
theorem dL_law_118 : decode cL_law 118 = .ok (.aload_n 0, 1) := by decide +kernel
theorem dL_law_119 : decode cL_law 119 = .ok (.iload_n 3, 1) := by decide +kernel
theorem dL_law_120 : decode cL_law 120 = .ok (.iconst 2, 1) := by decide +kernel
theorem dL_law_121 : decode cL_law 121 = .ok (.iadd, 1) := by decide +kernel
theorem dL_law_122 : decode cL_law 122 = .ok (.iaload, 1) := by decide +kernel
theorem dL_law_123 : decode cL_law 123 = .ok (.i2l, 1) := by decide +kernel
theorem dL_law_124 : decode cL_law 124 = .ok (.ldc2_w 13, 3) := by decide +kernel
theorem dL_law_127 : decode cL_law 127 = .ok (.land, 1) := by decide +kernel
theorem dL_law_128 : decode cL_law 128 = .ok (.lor, 1) := by decide +kernel
theorem dL_law_129 : decode cL_law 129 = .ok (.aload_n 0, 1) := by decide +kernel
theorem dL_law_130 : decode cL_law 130 = .ok (.iload_n 3, 1) := by decide +kernel
theorem dL_law_131 : decode cL_law 131 = .ok (.iconst 3, 1) := by decide +kernel
theorem dL_law_132 : decode cL_law 132 = .ok (.iadd, 1) := by decide +kernel
theorem dL_law_133 : decode cL_law 133 = .ok (.iaload, 1) := by decide +kernel
theorem dL_law_134 : decode cL_law 134 = .ok (.invokevirtual 15, 3) := by decide +kernel
theorem dL_law_137 : decode cL_law 137 = .ok (.aload_n 2, 1) := by decide +kernel
theorem dL_law_138 : decode cL_law 138 = .ok (.aload_n 0, 1) := by decide +kernel
theorem dL_law_139 : decode cL_law 139 = .ok (.iload_n 3, 1) := by decide +kernel
theorem dL_law_140 : decode cL_law 140 = .ok (.iconst 1, 1) := by decide +kernel
theorem dL_law_141 : decode cL_law 141 = .ok (.iadd, 1) := by decide +kernel
theorem dL_law_142 : decode cL_law 142 = .ok (.iaload, 1) := by decide +kernel
theorem dL_law_143 : decode cL_law 143 = .ok (.i2l, 1) := by decide +kernel
theorem dL_law_144 : decode cL_law 144 = .ok (.bipush 32, 2) := by decide +kernel
theorem dL_law_146 : decode cL_law 146 = .ok (.lshl, 1) := by decide +kernel
theorem dL_law_147 : decode cL_law 147 = .ok (.aload_n 0, 1) := by decide +kernel
theorem dL_law_148 : decode cL_law 148 = .ok (.iload_n 3, 1) := by decide +kernel
theorem dL_law_149 : decode cL_law 149 = .ok (.iconst 2, 1) := by decide +kernel
theorem dL_law_150 : decode cL_law 150 = .ok (.iadd, 1) := by decide +kernel
theorem dL_law_151 : decode cL_law 151 = .ok (.iaload, 1) := by decide +kernel
theorem dL_law_152 : decode cL_law 152 = .ok (.i2l, 1) := by decide +kernel
theorem dL_law_153 : decode cL_law 153 = .ok (.ldc2_w 13, 3) := by decide +kernel
theorem dL_law_156 : decode cL_law 156 = .ok (.land, 1) := by decide +kernel
theorem dL_law_157 : decode cL_law 157 = .ok (.lor, 1) := by decide +kernel
theorem dL_law_158 : decode cL_law 158 = .ok (.aload_n 0, 1) := by decide +kernel
theorem dL_law_159 : decode cL_law 159 = .ok (.iload_n 3, 1) := by decide +kernel
theorem dL_law_160 : decode cL_law 160 = .ok (.iconst 3, 1) := by decide +kernel
theorem dL_law_161 : decode cL_law 161 = .ok (.iadd, 1) := by decide +kernel
theorem dL_law_162 : decode cL_law 162 = .ok (.iaload, 1) := by decide +kernel
theorem dL_law_163 : decode cL_law 163 = .ok (.invokevirtual 19, 3) := by decide +kernel
theorem dL_law_166 : decode cL_law 166 = .ok (.if_icmp .eq 367, 3) := by decide +kernel
theorem dL_law_169 : decode cL_law 169 = .ok (.iconst 0, 1) := by decide +kernel
theorem dL_law_170 : decode cL_law 170 = .ok (.ireturn, 1) := by decide +kernel
theorem dL_law_171 : decode cL_law 171 = .ok (.aload_n 1, 1) := by decide +kernel
theorem dL_law_172 : decode cL_law 172 = .ok (.aload_n 0, 1) := by decide +kernel
theorem dL_law_173 : decode cL_law 173 = .ok (.iload_n 3, 1) := by decide +kernel
theorem dL_law_174 : decode cL_law 174 = .ok (.iconst 1, 1) := by decide +kernel
theorem dL_law_175 : decode cL_law 175 = .ok (.iadd, 1) := by decide +kernel
theorem dL_law_176 : decode cL_law 176 = .ok (.iaload, 1) := by decide +kernel
theorem dL_law_177 : decode cL_law 177 = .ok (.invokevirtual 20, 3) := by decide +kernel
theorem dL_law_180 : decode cL_law 180 = .ok (.aload_n 2, 1) := by decide +kernel
theorem dL_law_181 : decode cL_law 181 = .ok (.aload_n 0, 1) := by decide +kernel
theorem dL_law_182 : decode cL_law 182 = .ok (.iload_n 3, 1) := by decide +kernel
theorem dL_law_183 : decode cL_law 183 = .ok (.iconst 1, 1) := by decide +kernel
theorem dL_law_184 : decode cL_law 184 = .ok (.iadd, 1) := by decide +kernel
theorem dL_law_185 : decode cL_law 185 = .ok (.iaload, 1) := by decide +kernel
theorem dL_law_186 : decode cL_law 186 = .ok (.invokevirtual 24, 3) := by decide +kernel
theorem dL_law_189 : decode cL_law 189 = .ok (.if_icmp .eq 344, 3) := by decide +kernel
theorem dL_law_192 : decode cL_law 192 = .ok (.iconst 0, 1) := by decide +kernel
theorem dL_law_193 : decode cL_law 193 = .ok (.ireturn, 1) := by decide +kernel
theorem dL_law_194 : decode cL_law 194 = .ok (.aload_n 1, 1) := by decide +kernel
theorem dL_law_195 : decode cL_law 195 = .ok (.aload_n 0, 1) := by decide +kernel
theorem dL_law_196 : decode cL_law 196 = .ok (.iload_n 3, 1) := by decide +kernel
theorem dL_law_197 : decode cL_law 197 = .ok (.iconst 1, 1) := by decide +kernel
theorem dL_law_198 : decode cL_law 198 = .ok (.iadd, 1) := by decide +kernel
theorem dL_law_199 : decode cL_law 199 = .ok (.iaload, 1) := by decide +kernel
theorem dL_law_200 : decode cL_law 200 = .ok (.invokevirtual 25, 3) := by decide +kernel
theorem dL_law_203 : decode cL_law 203 = .ok (.aload_n 2, 1) := by decide +kernel
theorem dL_law_204 : decode cL_law 204 = .ok (.aload_n 0, 1) := by decide +kernel
theorem dL_law_205 : decode cL_law 205 = .ok (.iload_n 3, 1) := by decide +kernel
theorem dL_law_206 : decode cL_law 206 = .ok (.iconst 1, 1) := by decide +kernel
theorem dL_law_207 : decode cL_law 207 = .ok (.iadd, 1) := by decide +kernel
theorem dL_law_208 : decode cL_law 208 = .ok (.iaload, 1) := by decide +kernel
theorem dL_law_209 : decode cL_law 209 = .ok (.invokevirtual 28, 3) := by decide +kernel
theorem dL_law_212 : decode cL_law 212 = .ok (.if_icmp .eq 321, 3) := by decide +kernel
theorem dL_law_215 : decode cL_law 215 = .ok (.iconst 0, 1) := by decide +kernel
theorem dL_law_216 : decode cL_law 216 = .ok (.ireturn, 1) := by decide +kernel
theorem dL_law_217 : decode cL_law 217 = .ok (.aload_n 1, 1) := by decide +kernel
theorem dL_law_218 : decode cL_law 218 = .ok (.aload_n 0, 1) := by decide +kernel
theorem dL_law_219 : decode cL_law 219 = .ok (.iload_n 3, 1) := by decide +kernel
theorem dL_law_220 : decode cL_law 220 = .ok (.iconst 1, 1) := by decide +kernel
theorem dL_law_221 : decode cL_law 221 = .ok (.iadd, 1) := by decide +kernel
theorem dL_law_222 : decode cL_law 222 = .ok (.iaload, 1) := by decide +kernel
theorem dL_law_223 : decode cL_law 223 = .ok (.aload_n 0, 1) := by decide +kernel
theorem dL_law_224 : decode cL_law 224 = .ok (.iload_n 3, 1) := by decide +kernel
theorem dL_law_225 : decode cL_law 225 = .ok (.iconst 2, 1) := by decide +kernel
theorem dL_law_226 : decode cL_law 226 = .ok (.iadd, 1) := by decide +kernel
theorem dL_law_227 : decode cL_law 227 = .ok (.iaload, 1) := by decide +kernel
theorem dL_law_228 : decode cL_law 228 = .ok (.invokevirtual 29, 3) := by decide +kernel
theorem dL_law_231 : decode cL_law 231 = .ok (.aload_n 2, 1) := by decide +kernel
theorem dL_law_232 : decode cL_law 232 = .ok (.aload_n 0, 1) := by decide +kernel
theorem dL_law_233 : decode cL_law 233 = .ok (.iload_n 3, 1) := by decide +kernel
theorem dL_law_234 : decode cL_law 234 = .ok (.iconst 1, 1) := by decide +kernel
theorem dL_law_235 : decode cL_law 235 = .ok (.iadd, 1) := by decide +kernel
theorem dL_law_236 : decode cL_law 236 = .ok (.iaload, 1) := by decide +kernel
theorem dL_law_237 : decode cL_law 237 = .ok (.aload_n 0, 1) := by decide +kernel
theorem dL_law_238 : decode cL_law 238 = .ok (.iload_n 3, 1) := by decide +kernel
theorem dL_law_239 : decode cL_law 239 = .ok (.iconst 2, 1) := by decide +kernel
theorem dL_law_240 : decode cL_law 240 = .ok (.iadd, 1) := by decide +kernel
theorem dL_law_241 : decode cL_law 241 = .ok (.iaload, 1) := by decide +kernel
theorem dL_law_242 : decode cL_law 242 = .ok (.invokevirtual 33, 3) := by decide +kernel
theorem dL_law_245 : decode cL_law 245 = .ok (.if_icmp .eq 288, 3) := by decide +kernel
theorem dL_law_248 : decode cL_law 248 = .ok (.iconst 0, 1) := by decide +kernel
theorem dL_law_249 : decode cL_law 249 = .ok (.ireturn, 1) := by decide +kernel
theorem dL_law_250 : decode cL_law 250 = .ok (.aload_n 1, 1) := by decide +kernel
theorem dL_law_251 : decode cL_law 251 = .ok (.aload_n 0, 1) := by decide +kernel
theorem dL_law_252 : decode cL_law 252 = .ok (.iload_n 3, 1) := by decide +kernel
theorem dL_law_253 : decode cL_law 253 = .ok (.iconst 1, 1) := by decide +kernel
theorem dL_law_254 : decode cL_law 254 = .ok (.iadd, 1) := by decide +kernel
theorem dL_law_255 : decode cL_law 255 = .ok (.iaload, 1) := by decide +kernel
theorem dL_law_256 : decode cL_law 256 = .ok (.aload_n 0, 1) := by decide +kernel
theorem dL_law_257 : decode cL_law 257 = .ok (.iload_n 3, 1) := by decide +kernel
theorem dL_law_258 : decode cL_law 258 = .ok (.iconst 2, 1) := by decide +kernel
theorem dL_law_259 : decode cL_law 259 = .ok (.iadd, 1) := by decide +kernel
theorem dL_law_260 : decode cL_law 260 = .ok (.iaload, 1) := by decide +kernel
theorem dL_law_261 : decode cL_law 261 = .ok (.invokevirtual 34, 3) := by decide +kernel
theorem dL_law_264 : decode cL_law 264 = .ok (.aload_n 2, 1) := by decide +kernel
theorem dL_law_265 : decode cL_law 265 = .ok (.aload_n 0, 1) := by decide +kernel
theorem dL_law_266 : decode cL_law 266 = .ok (.iload_n 3, 1) := by decide +kernel
theorem dL_law_267 : decode cL_law 267 = .ok (.iconst 1, 1) := by decide +kernel
theorem dL_law_268 : decode cL_law 268 = .ok (.iadd, 1) := by decide +kernel
theorem dL_law_269 : decode cL_law 269 = .ok (.iaload, 1) := by decide +kernel
theorem dL_law_270 : decode cL_law 270 = .ok (.aload_n 0, 1) := by decide +kernel
theorem dL_law_271 : decode cL_law 271 = .ok (.iload_n 3, 1) := by decide +kernel
theorem dL_law_272 : decode cL_law 272 = .ok (.iconst 2, 1) := by decide +kernel
theorem dL_law_273 : decode cL_law 273 = .ok (.iadd, 1) := by decide +kernel
theorem dL_law_274 : decode cL_law 274 = .ok (.iaload, 1) := by decide +kernel
theorem dL_law_275 : decode cL_law 275 = .ok (.invokevirtual 37, 3) := by decide +kernel
theorem dL_law_278 : decode cL_law 278 = .ok (.if_icmp .eq 255, 3) := by decide +kernel
theorem dL_law_281 : decode cL_law 281 = .ok (.iconst 0, 1) := by decide +kernel
theorem dL_law_282 : decode cL_law 282 = .ok (.ireturn, 1) := by decide +kernel
theorem dL_law_283 : decode cL_law 283 = .ok (.aload_n 1, 1) := by decide +kernel
theorem dL_law_284 : decode cL_law 284 = .ok (.aload_n 0, 1) := by decide +kernel
theorem dL_law_285 : decode cL_law 285 = .ok (.iload_n 3, 1) := by decide +kernel
theorem dL_law_286 : decode cL_law 286 = .ok (.iconst 1, 1) := by decide +kernel
theorem dL_law_287 : decode cL_law 287 = .ok (.iadd, 1) := by decide +kernel
theorem dL_law_288 : decode cL_law 288 = .ok (.iaload, 1) := by decide +kernel
theorem dL_law_289 : decode cL_law 289 = .ok (.aload_n 0, 1) := by decide +kernel
theorem dL_law_290 : decode cL_law 290 = .ok (.iload_n 3, 1) := by decide +kernel
theorem dL_law_291 : decode cL_law 291 = .ok (.iconst 2, 1) := by decide +kernel
theorem dL_law_292 : decode cL_law 292 = .ok (.iadd, 1) := by decide +kernel
theorem dL_law_293 : decode cL_law 293 = .ok (.iaload, 1) := by decide +kernel
theorem dL_law_294 : decode cL_law 294 = .ok (.invokevirtual 38, 3) := by decide +kernel
theorem dL_law_297 : decode cL_law 297 = .ok (.aload_n 2, 1) := by decide +kernel
theorem dL_law_298 : decode cL_law 298 = .ok (.aload_n 0, 1) := by decide +kernel
theorem dL_law_299 : decode cL_law 299 = .ok (.iload_n 3, 1) := by decide +kernel
theorem dL_law_300 : decode cL_law 300 = .ok (.iconst 1, 1) := by decide +kernel
theorem dL_law_301 : decode cL_law 301 = .ok (.iadd, 1) := by decide +kernel
theorem dL_law_302 : decode cL_law 302 = .ok (.iaload, 1) := by decide +kernel
theorem dL_law_303 : decode cL_law 303 = .ok (.aload_n 0, 1) := by decide +kernel
theorem dL_law_304 : decode cL_law 304 = .ok (.iload_n 3, 1) := by decide +kernel
theorem dL_law_305 : decode cL_law 305 = .ok (.iconst 2, 1) := by decide +kernel
theorem dL_law_306 : decode cL_law 306 = .ok (.iadd, 1) := by decide +kernel
theorem dL_law_307 : decode cL_law 307 = .ok (.iaload, 1) := by decide +kernel
theorem dL_law_308 : decode cL_law 308 = .ok (.invokevirtual 41, 3) := by decide +kernel
theorem dL_law_311 : decode cL_law 311 = .ok (.if_icmp .eq 222, 3) := by decide +kernel
theorem dL_law_314 : decode cL_law 314 = .ok (.iconst 0, 1) := by decide +kernel
theorem dL_law_315 : decode cL_law 315 = .ok (.ireturn, 1) := by decide +kernel
theorem dL_law_316 : decode cL_law 316 = .ok (.aload_n 1, 1) := by decide +kernel
theorem dL_law_317 : decode cL_law 317 = .ok (.aload_n 0, 1) := by decide +kernel
theorem dL_law_318 : decode cL_law 318 = .ok (.iload_n 3, 1) := by decide +kernel
theorem dL_law_319 : decode cL_law 319 = .ok (.iconst 1, 1) := by decide +kernel
theorem dL_law_320 : decode cL_law 320 = .ok (.iadd, 1) := by decide +kernel
theorem dL_law_321 : decode cL_law 321 = .ok (.iaload, 1) := by decide +kernel
theorem dL_law_322 : decode cL_law 322 = .ok (.aload_n 0, 1) := by decide +kernel
theorem dL_law_323 : decode cL_law 323 = .ok (.iload_n 3, 1) := by decide +kernel
theorem dL_law_324 : decode cL_law 324 = .ok (.iconst 2, 1) := by decide +kernel
theorem dL_law_325 : decode cL_law 325 = .ok (.iadd, 1) := by decide +kernel
theorem dL_law_326 : decode cL_law 326 = .ok (.iaload, 1) := by decide +kernel
theorem dL_law_327 : decode cL_law 327 = .ok (.invokevirtual 42, 3) := by decide +kernel
theorem dL_law_330 : decode cL_law 330 = .ok (.aload_n 2, 1) := by decide +kernel
theorem dL_law_331 : decode cL_law 331 = .ok (.aload_n 0, 1) := by decide +kernel
theorem dL_law_332 : decode cL_law 332 = .ok (.iload_n 3, 1) := by decide +kernel
theorem dL_law_333 : decode cL_law 333 = .ok (.iconst 1, 1) := by decide +kernel
theorem dL_law_334 : decode cL_law 334 = .ok (.iadd, 1) := by decide +kernel
theorem dL_law_335 : decode cL_law 335 = .ok (.iaload, 1) := by decide +kernel
theorem dL_law_336 : decode cL_law 336 = .ok (.aload_n 0, 1) := by decide +kernel
theorem dL_law_337 : decode cL_law 337 = .ok (.iload_n 3, 1) := by decide +kernel
theorem dL_law_338 : decode cL_law 338 = .ok (.iconst 2, 1) := by decide +kernel
theorem dL_law_339 : decode cL_law 339 = .ok (.iadd, 1) := by decide +kernel
theorem dL_law_340 : decode cL_law 340 = .ok (.iaload, 1) := by decide +kernel
theorem dL_law_341 : decode cL_law 341 = .ok (.invokevirtual 45, 3) := by decide +kernel
theorem dL_law_344 : decode cL_law 344 = .ok (.if_icmp .eq 189, 3) := by decide +kernel
theorem dL_law_347 : decode cL_law 347 = .ok (.iconst 0, 1) := by decide +kernel
theorem dL_law_348 : decode cL_law 348 = .ok (.ireturn, 1) := by decide +kernel
theorem dL_law_349 : decode cL_law 349 = .ok (.aload_n 1, 1) := by decide +kernel
theorem dL_law_350 : decode cL_law 350 = .ok (.aload_n 0, 1) := by decide +kernel
theorem dL_law_351 : decode cL_law 351 = .ok (.iload_n 3, 1) := by decide +kernel
theorem dL_law_352 : decode cL_law 352 = .ok (.iconst 1, 1) := by decide +kernel
theorem dL_law_353 : decode cL_law 353 = .ok (.iadd, 1) := by decide +kernel
theorem dL_law_354 : decode cL_law 354 = .ok (.iaload, 1) := by decide +kernel
theorem dL_law_355 : decode cL_law 355 = .ok (.invokevirtual 46, 3) := by decide +kernel
theorem dL_law_358 : decode cL_law 358 = .ok (.aload_n 2, 1) := by decide +kernel
theorem dL_law_359 : decode cL_law 359 = .ok (.aload_n 0, 1) := by decide +kernel
theorem dL_law_360 : decode cL_law 360 = .ok (.iload_n 3, 1) := by decide +kernel
theorem dL_law_361 : decode cL_law 361 = .ok (.iconst 1, 1) := by decide +kernel
theorem dL_law_362 : decode cL_law 362 = .ok (.iadd, 1) := by decide +kernel
theorem dL_law_363 : decode cL_law 363 = .ok (.iaload, 1) := by decide +kernel
theorem dL_law_364 : decode cL_law 364 = .ok (.invokevirtual 49, 3) := by decide +kernel
theorem dL_law_367 : decode cL_law 367 = .ok (.if_icmp .eq 166, 3) := by decide +kernel
theorem dL_law_370 : decode cL_law 370 = .ok (.iconst 0, 1) := by decide +kernel
theorem dL_law_371 : decode cL_law 371 = .ok (.ireturn, 1) := by decide +kernel
theorem dL_law_372 : decode cL_law 372 = .ok (.aload_n 1, 1) := by decide +kernel
theorem dL_law_373 : decode cL_law 373 = .ok (.aload_n 0, 1) := by decide +kernel
theorem dL_law_374 : decode cL_law 374 = .ok (.iload_n 3, 1) := by decide +kernel
theorem dL_law_375 : decode cL_law 375 = .ok (.iconst 1, 1) := by decide +kernel
theorem dL_law_376 : decode cL_law 376 = .ok (.iadd, 1) := by decide +kernel
theorem dL_law_377 : decode cL_law 377 = .ok (.iaload, 1) := by decide +kernel
theorem dL_law_378 : decode cL_law 378 = .ok (.aload_n 0, 1) := by decide +kernel
theorem dL_law_379 : decode cL_law 379 = .ok (.iload_n 3, 1) := by decide +kernel
theorem dL_law_380 : decode cL_law 380 = .ok (.iconst 2, 1) := by decide +kernel
theorem dL_law_381 : decode cL_law 381 = .ok (.iadd, 1) := by decide +kernel
theorem dL_law_382 : decode cL_law 382 = .ok (.iaload, 1) := by decide +kernel
theorem dL_law_383 : decode cL_law 383 = .ok (.invokevirtual 50, 3) := by decide +kernel
theorem dL_law_386 : decode cL_law 386 = .ok (.aload_n 2, 1) := by decide +kernel
theorem dL_law_387 : decode cL_law 387 = .ok (.aload_n 0, 1) := by decide +kernel
theorem dL_law_388 : decode cL_law 388 = .ok (.iload_n 3, 1) := by decide +kernel
theorem dL_law_389 : decode cL_law 389 = .ok (.iconst 1, 1) := by decide +kernel
theorem dL_law_390 : decode cL_law 390 = .ok (.iadd, 1) := by decide +kernel
theorem dL_law_391 : decode cL_law 391 = .ok (.iaload, 1) := by decide +kernel
theorem dL_law_392 : decode cL_law 392 = .ok (.aload_n 0, 1) := by decide +kernel
theorem dL_law_393 : decode cL_law 393 = .ok (.iload_n 3, 1) := by decide +kernel
theorem dL_law_394 : decode cL_law 394 = .ok (.iconst 2, 1) := by decide +kernel
theorem dL_law_395 : decode cL_law 395 = .ok (.iadd, 1) := by decide +kernel
theorem dL_law_396 : decode cL_law 396 = .ok (.iaload, 1) := by decide +kernel
theorem dL_law_397 : decode cL_law 397 = .ok (.invokevirtual 53, 3) := by decide +kernel
theorem dL_law_400 : decode cL_law 400 = .ok (.if_icmp .eq 133, 3) := by decide +kernel
theorem dL_law_403 : decode cL_law 403 = .ok (.iconst 0, 1) := by decide +kernel
theorem dL_law_404 : decode cL_law 404 = .ok (.ireturn, 1) := by decide +kernel
theorem dL_law_405 : decode cL_law 405 = .ok (.aload_n 1, 1) := by decide +kernel
theorem dL_law_406 : decode cL_law 406 = .ok (.aload_n 0, 1) := by decide +kernel
theorem dL_law_407 : decode cL_law 407 = .ok (.iload_n 3, 1) := by decide +kernel
theorem dL_law_408 : decode cL_law 408 = .ok (.iconst 1, 1) := by decide +kernel
theorem dL_law_409 : decode cL_law 409 = .ok (.iadd, 1) := by decide +kernel
theorem dL_law_410 : decode cL_law 410 = .ok (.iaload, 1) := by decide +kernel
theorem dL_law_411 : decode cL_law 411 = .ok (.invokevirtual 54, 3) := by decide +kernel
theorem dL_law_414 : decode cL_law 414 = .ok (.aload_n 2, 1) := by decide +kernel
theorem dL_law_415 : decode cL_law 415 = .ok (.aload_n 0, 1) := by decide +kernel
theorem dL_law_416 : decode cL_law 416 = .ok (.iload_n 3, 1) := by decide +kernel
theorem dL_law_417 : decode cL_law 417 = .ok (.iconst 1, 1) := by decide +kernel
theorem dL_law_418 : decode cL_law 418 = .ok (.iadd, 1) := by decide +kernel
theorem dL_law_419 : decode cL_law 419 = .ok (.iaload, 1) := by decide +kernel
theorem dL_law_420 : decode cL_law 420 = .ok (.invokevirtual 57, 3) := by decide +kernel
theorem dL_law_423 : decode cL_law 423 = .ok (.if_icmp .eq 110, 3) := by decide +kernel
theorem dL_law_426 : decode cL_law 426 = .ok (.iconst 0, 1) := by decide +kernel
theorem dL_law_427 : decode cL_law 427 = .ok (.ireturn, 1) := by decide +kernel
theorem dL_law_428 : decode cL_law 428 = .ok (.aload_n 1, 1) := by decide +kernel
theorem dL_law_429 : decode cL_law 429 = .ok (.aload_n 0, 1) := by decide +kernel
theorem dL_law_430 : decode cL_law 430 = .ok (.iload_n 3, 1) := by decide +kernel
theorem dL_law_431 : decode cL_law 431 = .ok (.iconst 1, 1) := by decide +kernel
theorem dL_law_432 : decode cL_law 432 = .ok (.iadd, 1) := by decide +kernel
theorem dL_law_433 : decode cL_law 433 = .ok (.iaload, 1) := by decide +kernel
theorem dL_law_434 : decode cL_law 434 = .ok (.aload_n 0, 1) := by decide +kernel
theorem dL_law_435 : decode cL_law 435 = .ok (.iload_n 3, 1) := by decide +kernel
theorem dL_law_436 : decode cL_law 436 = .ok (.iconst 2, 1) := by decide +kernel
theorem dL_law_437 : decode cL_law 437 = .ok (.iadd, 1) := by decide +kernel
theorem dL_law_438 : decode cL_law 438 = .ok (.iaload, 1) := by decide +kernel
theorem dL_law_439 : decode cL_law 439 = .ok (.invokevirtual 58, 3) := by decide +kernel
theorem dL_law_442 : decode cL_law 442 = .ok (.aload_n 2, 1) := by decide +kernel
theorem dL_law_443 : decode cL_law 443 = .ok (.aload_n 0, 1) := by decide +kernel
theorem dL_law_444 : decode cL_law 444 = .ok (.iload_n 3, 1) := by decide +kernel
theorem dL_law_445 : decode cL_law 445 = .ok (.iconst 1, 1) := by decide +kernel
theorem dL_law_446 : decode cL_law 446 = .ok (.iadd, 1) := by decide +kernel
theorem dL_law_447 : decode cL_law 447 = .ok (.iaload, 1) := by decide +kernel
theorem dL_law_448 : decode cL_law 448 = .ok (.aload_n 0, 1) := by decide +kernel
theorem dL_law_449 : decode cL_law 449 = .ok (.iload_n 3, 1) := by decide +kernel
theorem dL_law_450 : decode cL_law 450 = .ok (.iconst 2, 1) := by decide +kernel
theorem dL_law_451 : decode cL_law 451 = .ok (.iadd, 1) := by decide +kernel
theorem dL_law_452 : decode cL_law 452 = .ok (.iaload, 1) := by decide +kernel
theorem dL_law_453 : decode cL_law 453 = .ok (.invokevirtual 61, 3) := by decide +kernel
theorem dL_law_456 : decode cL_law 456 = .ok (.if_icmp .eq 77, 3) := by decide +kernel
theorem dL_law_459 : decode cL_law 459 = .ok (.iconst 0, 1) := by decide +kernel
theorem dL_law_460 : decode cL_law 460 = .ok (.ireturn, 1) := by decide +kernel
theorem dL_law_461 : decode cL_law 461 = .ok (.aload_n 1, 1) := by decide +kernel
theorem dL_law_462 : decode cL_law 462 = .ok (.aload_n 0, 1) := by decide +kernel
theorem dL_law_463 : decode cL_law 463 = .ok (.iload_n 3, 1) := by decide +kernel
theorem dL_law_464 : decode cL_law 464 = .ok (.iconst 1, 1) := by decide +kernel
theorem dL_law_465 : decode cL_law 465 = .ok (.iadd, 1) := by decide +kernel
theorem dL_law_466 : decode cL_law 466 = .ok (.iaload, 1) := by decide +kernel
theorem dL_law_467 : decode cL_law 467 = .ok (.invokevirtual 62, 3) := by decide +kernel
theorem dL_law_470 : decode cL_law 470 = .ok (.aload_n 2, 1) := by decide +kernel
theorem dL_law_471 : decode cL_law 471 = .ok (.aload_n 0, 1) := by decide +kernel
theorem dL_law_472 : decode cL_law 472 = .ok (.iload_n 3, 1) := by decide +kernel
theorem dL_law_473 : decode cL_law 473 = .ok (.iconst 1, 1) := by decide +kernel
theorem dL_law_474 : decode cL_law 474 = .ok (.iadd, 1) := by decide +kernel
theorem dL_law_475 : decode cL_law 475 = .ok (.iaload, 1) := by decide +kernel
theorem dL_law_476 : decode cL_law 476 = .ok (.invokevirtual 65, 3) := by decide +kernel
theorem dL_law_479 : decode cL_law 479 = .ok (.if_icmp .eq 54, 3) := by decide +kernel
theorem dL_law_482 : decode cL_law 482 = .ok (.iconst 0, 1) := by decide +kernel
theorem dL_law_483 : decode cL_law 483 = .ok (.ireturn, 1) := by decide +kernel
theorem dL_law_484 : decode cL_law 484 = .ok (.aload_n 1, 1) := by decide +kernel
theorem dL_law_485 : decode cL_law 485 = .ok (.invokevirtual 66, 3) := by decide +kernel
theorem dL_law_488 : decode cL_law 488 = .ok (.aload_n 2, 1) := by decide +kernel
theorem dL_law_489 : decode cL_law 489 = .ok (.invokevirtual 70, 3) := by decide +kernel
theorem dL_law_492 : decode cL_law 492 = .ok (.if_icmp .eq 41, 3) := by decide +kernel
theorem dL_law_495 : decode cL_law 495 = .ok (.iconst 0, 1) := by decide +kernel
theorem dL_law_496 : decode cL_law 496 = .ok (.ireturn, 1) := by decide +kernel
theorem dL_law_497 : decode cL_law 497 = .ok (.aload_n 1, 1) := by decide +kernel
theorem dL_law_498 : decode cL_law 498 = .ok (.aload_n 0, 1) := by decide +kernel
theorem dL_law_499 : decode cL_law 499 = .ok (.iload_n 3, 1) := by decide +kernel
theorem dL_law_500 : decode cL_law 500 = .ok (.iconst 1, 1) := by decide +kernel
theorem dL_law_501 : decode cL_law 501 = .ok (.iadd, 1) := by decide +kernel
theorem dL_law_502 : decode cL_law 502 = .ok (.iaload, 1) := by decide +kernel
theorem dL_law_503 : decode cL_law 503 = .ok (.invokevirtual 71, 3) := by decide +kernel
theorem dL_law_506 : decode cL_law 506 = .ok (.aload_n 2, 1) := by decide +kernel
theorem dL_law_507 : decode cL_law 507 = .ok (.aload_n 0, 1) := by decide +kernel
theorem dL_law_508 : decode cL_law 508 = .ok (.iload_n 3, 1) := by decide +kernel
theorem dL_law_509 : decode cL_law 509 = .ok (.iconst 1, 1) := by decide +kernel
theorem dL_law_510 : decode cL_law 510 = .ok (.iadd, 1) := by decide +kernel
theorem dL_law_511 : decode cL_law 511 = .ok (.iaload, 1) := by decide +kernel
theorem dL_law_512 : decode cL_law 512 = .ok (.invokevirtual 74, 3) := by decide +kernel
theorem dL_law_515 : decode cL_law 515 = .ok (.if_icmp .eq 18, 3) := by decide +kernel
theorem dL_law_518 : decode cL_law 518 = .ok (.iconst 0, 1) := by decide +kernel
theorem dL_law_519 : decode cL_law 519 = .ok (.ireturn, 1) := by decide +kernel
theorem dL_law_520 : decode cL_law 520 = .ok (.aload_n 1, 1) := by decide +kernel
theorem dL_law_521 : decode cL_law 521 = .ok (.invokevirtual 75, 3) := by decide +kernel
theorem dL_law_524 : decode cL_law 524 = .ok (.aload_n 2, 1) := by decide +kernel
theorem dL_law_525 : decode cL_law 525 = .ok (.invokevirtual 78, 3) := by decide +kernel
theorem dL_law_528 : decode cL_law 528 = .ok (.if_icmp .eq 5, 3) := by decide +kernel
theorem dL_law_531 : decode cL_law 531 = .ok (.iconst 0, 1) := by decide +kernel
theorem dL_law_532 : decode cL_law 532 = .ok (.ireturn, 1) := by decide +kernel
theorem dL_law_533 : decode cL_law 533 = .ok (.iinc 3 4, 3) := by decide +kernel
theorem dL_law_536 : decode cL_law 536 = .ok (.goto (-518), 3) := by decide +kernel
theorem dL_law_539 : decode cL_law 539 = .ok (.iconst 1, 1) := by decide +kernel
theorem dL_law_540 : decode cL_law 540 = .ok (.ireturn, 1) := by decide +kernel
end
section
/-! ===== A FIXED WORLD OF CELLS. A state is (ints, cells): .1 c i the int at place i of cell c, .2 c i the cell that place i of cell c refers to. A layout is (kind and length of each cell, how many cells): kinds 0 to 4 the classes of vwCl, 5 char[], 6 int[], 7 Group[]. ===== -/
abbrev jx_St : Type := (Nat → Nat → Int32) × (Nat → Nat → Nat)
abbrev jx_Ly : Type := (Nat → Nat × Nat) × Nat
/-- class numbers and slots, addresses of the cells, array classes (char, int, Group), addresses of the literals and of their bytes -/
abbrev jx_Dt : Type := va_G × (Nat → Nat) × (ClassId × ClassId × ClassId) × (Nat → Nat) × (Nat → Nat)
def jx_u2 {α : Type} (f : Nat → Nat → α) (c i : Nat) (v : α) : Nat → Nat → α := fun c' i' => if c' = c ∧ i' = i then v else f c' i'
def jx_sI (s : jx_St) (c i : Nat) (v : Int32) : jx_St := (jx_u2 s.1 c i v, s.2)
def jx_sR (s : jx_St) (c i : Nat) (v : Nat) : jx_St := (s.1, jx_u2 s.2 c i v)
def jx_nf (k : Nat) : Nat := ([11, 12, 8, 7, 32] : List Nat).getD k 0
def jx_isR (k i : Nat) : Bool := (([[6, 8, 9], [10, 11], [0, 4, 7], [0, 2, 4, 5, 6], [0, 2, 3, 14, 15, 16, 17, 24, 25, 26, 27, 28, 30]] : List (List Nat)).getD k []).contains i
def jx_F (D : jx_Dt) (s : jx_St) (k c : Nat) : List Value := (List.range (jx_nf k)).map (fun i => if jx_isR k i = true then Value.ref (D.2.1 (s.2 c i)) else Value.int (s.1 c i))
def jx_E (D : jx_Dt) (L : jx_Ly) (s : jx_St) (c : Nat) : va_E :=
  if (L.1 c).1 ≤ 4 then .inr ((L.1 c).1, jx_F D s (L.1 c).1 c)
  else if (L.1 c).1 = 5 then .inl (D.2.2.1.1, (L.1 c).2, .inl (s.1 c))
  else if (L.1 c).1 = 6 then .inl (D.2.2.1.2.1, (L.1 c).2, .inl (s.1 c))
  else .inl (D.2.2.1.2.2, (L.1 c).2, .inr (.inr (.inr (.inr (fun i => some (D.2.1 (s.2 c i)))))))
def jx_w (D : jx_Dt) (L : jx_Ly) (s : jx_St) : va_W := (List.range L.2).map (fun c => (D.2.1 c, jx_E D L s c))
def jx_A (D : jx_Dt) (L : jx_Ly) : Nat → Prop := fun q => ∃ c : Nat, c < L.2 ∧ q = D.2.1 c
def jx_In (D : jx_Dt) (L : jx_Ly) : Prop := ∀ i j : Nat, i < L.2 → j < L.2 → D.2.1 i = D.2.1 j → i = j
def jx_tys (D : jx_Dt) : List (ClassId × FieldType) := [(D.2.2.1.1, .char), (D.2.2.1.2.1, .int), (D.2.2.1.2.2, .object RX1)]
/-- the literals of the class: their places in its constant pool, their texts, their bytes -/
def jx_six : List Nat := [70, 76, 199, 201, 212, 230, 236, 238, 240, 251, 253, 255, 265, 193, 116, 121, 123, 128, 149]
def jx_stx : List String := ["METAR", "TAF", "VRB", "KT", "CAVOK", "MIBCPRDRBLSHTSFZ", "DZRASNSGPLGRGSBRFGFUVADUSAHZPOSQFCSSDS", "NSC", "VV", "CB", "TCU", "FEWSCTBKNOVC", "M", "FM", "BECMG", "TEMPO", "PROB30", "PROB40", "NSW"]
def jx_sby : List (List Int32) := [[77, 69, 84, 65, 82], [84, 65, 70], [86, 82, 66], [75, 84], [67, 65, 86, 79, 75], [77, 73, 66, 67, 80, 82, 68, 82, 66, 76, 83, 72, 84, 83, 70, 90], [68, 90, 82, 65, 83, 78, 83, 71, 80, 76, 71, 82, 71, 83, 66, 82, 70, 71, 70, 85, 86, 65, 68, 85, 83, 65, 72, 90, 80, 79, 83, 81, 70, 67, 83, 83, 68, 83], [78, 83, 67], [86, 86], [67, 66], [84, 67, 85], [70, 69, 87, 83, 67, 84, 66, 75, 78, 79, 86, 67], [77], [70, 77], [66, 69, 67, 77, 71], [84, 69, 77, 80, 79], [80, 82, 79, 66, 51, 48], [80, 82, 79, 66, 52, 48], [78, 83, 87]]
def jx_sln : List Nat := [5, 3, 3, 2, 5, 16, 38, 3, 2, 2, 3, 12, 1, 2, 5, 5, 6, 6, 3]
def jx_Sr (D : jx_Dt) (L : jx_Ly) (U : State) (H : Heap) : Prop :=
  vk_S 19 jx_sln jx_sby D.2.2.2.1 D.2.2.2.2 (jx_A D L) U H ∧ (∀ i : Nat, i < 19 → vk_R RX2 (jx_six.getD i 0) (jx_stx.getD i "") (D.2.2.2.1 i) U) ∧ va_Z "java/lang/String" "COMPACT_STRINGS" "Z" (.int 1) (jx_A D L) U H ∧ va_Zq "jdk/internal/util/Preconditions" "SIOOBE_FORMATTER" "Ljava/util/function/BiFunction;" (jx_A D L) U H
/-- the world in a state of the machine -/
def jx_B (D : jx_Dt) (L : jx_Ly) (u : jx_St) (U : State) : Prop := va_P D.1 vwCl (jx_w D L u) U.heap ∧ va_K D.1 vwCl (jx_tys D) U ∧ jx_In D L ∧ jx_Sr D L U U.heap
theorem jx_Sr_warm {D : jx_Dt} {L : jx_Ly} {s U : State} {H : Heap} (hW : s.WarmedH U.vm) (h : jx_Sr D L s H) : jx_Sr D L U H :=
  ⟨h.1.moved hW.alike, fun i hi => (h.2.1 i hi).warm hW, h.2.2.1.moved hW.alike, h.2.2.2.moved hW.alike⟩
theorem jx_Sr_kept {D : jx_Dt} {L : jx_Ly} {U : State} {H H1 : Heap} (h : jx_Sr D L U H) (hq : ∀ a : Nat, a < H.size → ¬ jx_A D L a → H1[a]? = H[a]?) : jx_Sr D L U H1 :=
  ⟨h.1.kept hq, h.2.1, h.2.2.1.kept hq, h.2.2.2.kept hq⟩
theorem jx_B_same {D : jx_Dt} {L : jx_Ly} {u : jx_St} {U V : State} (hh : V.heap = U.heap) (hv : V.vm = U.vm) (h : jx_B D L u U) : jx_B D L u V := by
  obtain ⟨h1, h2, h3, h4, h5, h6, h7⟩ := h
  have hal : U.vm.Alike V.vm := by rw [hv]; exact Vm.Alike.refl _
  exact ⟨by rw [hh]; exact h1, va_K.moved hal h2, h3, by rw [hh]; exact h4.moved hal, fun i hi => (h5 i hi).same hv, by rw [hh]; exact h6.moved hal, by rw [hh]; exact h7.moved hal⟩
theorem jx_w_at {D : jx_Dt} {L : jx_Ly} {s : jx_St} {c : Nat} (h : c < L.2) : (jx_w D L s)[c]? = some (D.2.1 c, jx_E D L s c) := by
  simp [jx_w, h]
theorem jx_D_of {D : jx_Dt} {L : jx_Ly} {s : jx_St} (h : jx_In D L) : va_D (jx_A D L) (jx_w D L s) := by
  refine ⟨fun i j p q hi hj e => ?_, fun k q hk => ?_⟩
  · have hi' : i < L.2 := by
      have := (List.getElem?_eq_some_iff.mp hi).1
      simpa [jx_w] using this
    have hj' : j < L.2 := by
      have := (List.getElem?_eq_some_iff.mp hj).1
      simpa [jx_w] using this
    rw [jx_w_at hi'] at hi
    rw [jx_w_at hj'] at hj
    cases hi
    cases hj
    exact h i j hi' hj' e
  · have hk' : k < L.2 := by
      have := (List.getElem?_eq_some_iff.mp hk).1
      simpa [jx_w] using this
    rw [jx_w_at hk'] at hk
    cases hk
    exact ⟨k, hk', rfl⟩
theorem jx_w_set {D : jx_Dt} {L : jx_Ly} {s s2 : jx_St} {c : Nat} {e : va_E} (hc : c < L.2) (h1 : jx_E D L s2 c = e) (h2 : ∀ c' : Nat, c' ≠ c → jx_E D L s2 c' = jx_E D L s c') : (jx_w D L s).set c (D.2.1 c, e) = jx_w D L s2 := by
  apply List.ext_getElem?
  intro i
  rw [List.getElem?_set]
  by_cases hi : c = i
  · subst hi
    rw [if_pos rfl, jx_w_at hc, h1]
    simp [jx_w, hc]
  · rw [if_neg hi]
    by_cases hl : i < L.2
    · rw [jx_w_at hl, jx_w_at hl, h2 i (fun e => hi e.symm)]
    · simp [jx_w, hl]
theorem jx_E_obj {D : jx_Dt} {L : jx_Ly} {s : jx_St} {c k : Nat} (h : (L.1 c).1 = k) (hk : k ≤ 4) : jx_E D L s c = .inr (k, jx_F D s k c) := by
  unfold jx_E; rw [h, if_pos hk]
theorem jx_E_chr {D : jx_Dt} {L : jx_Ly} {s : jx_St} {c : Nat} (h : (L.1 c).1 = 5) : jx_E D L s c = .inl (D.2.2.1.1, (L.1 c).2, .inl (s.1 c)) := by
  unfold jx_E; rw [h]; rfl
theorem jx_E_int {D : jx_Dt} {L : jx_Ly} {s : jx_St} {c : Nat} (h : (L.1 c).1 = 6) : jx_E D L s c = .inl (D.2.2.1.2.1, (L.1 c).2, .inl (s.1 c)) := by
  unfold jx_E; rw [h]; rfl
theorem jx_E_grp {D : jx_Dt} {L : jx_Ly} {s : jx_St} {c : Nat} (h : (L.1 c).1 = 7) : jx_E D L s c = .inl (D.2.2.1.2.2, (L.1 c).2, .inr (.inr (.inr (.inr (fun i => some (D.2.1 (s.2 c i))))))) := by
  unfold jx_E; rw [h]; rfl
theorem jx_F_len {D : jx_Dt} {s : jx_St} {k c : Nat} : (jx_F D s k c).length = jx_nf k := by simp [jx_F]
theorem jx_F_int {D : jx_Dt} {s : jx_St} {k c f : Nat} (hf : f < jx_nf k) (hr : jx_isR k f = false) : (jx_F D s k c)[f]? = some (.int (s.1 c f)) := by
  simp [jx_F, hf, hr]
theorem jx_F_ref {D : jx_Dt} {s : jx_St} {k c f : Nat} (hf : f < jx_nf k) (hr : jx_isR k f = true) : (jx_F D s k c)[f]? = some (.ref (D.2.1 (s.2 c f))) := by
  simp [jx_F, hf, hr]
theorem jx_F_setI {D : jx_Dt} {s : jx_St} {k c f : Nat} {v : Int32} (hr : jx_isR k f = false) : (jx_F D s k c).set f (.int v) = jx_F D (jx_sI s c f v) k c := by
  apply List.ext_getElem?
  intro i
  rw [List.getElem?_set]
  by_cases hi : f = i
  · subst hi
    rw [if_pos rfl]
    by_cases hl : f < jx_nf k
    · rw [if_pos (by rw [jx_F_len]; exact hl), jx_F_int hl hr]
      simp [jx_sI, jx_u2]
    · rw [if_neg (by rw [jx_F_len]; exact hl)]
      simp [jx_F, hl]
  · rw [if_neg hi]
    have hi2 : ¬ i = f := fun e => hi e.symm
    by_cases hl : i < jx_nf k <;> simp [jx_F, jx_sI, jx_u2, hi2, hl]
theorem jx_F_setR {D : jx_Dt} {s : jx_St} {k c f v : Nat} (hr : jx_isR k f = true) : (jx_F D s k c).set f (.ref (D.2.1 v)) = jx_F D (jx_sR s c f v) k c := by
  apply List.ext_getElem?
  intro i
  rw [List.getElem?_set]
  by_cases hi : f = i
  · subst hi
    rw [if_pos rfl]
    by_cases hl : f < jx_nf k
    · rw [if_pos (by rw [jx_F_len]; exact hl), jx_F_ref hl hr]
      simp [jx_sR, jx_u2]
    · rw [if_neg (by rw [jx_F_len]; exact hl)]
      simp [jx_F, hl]
  · rw [if_neg hi]
    have hi2 : ¬ i = f := fun e => hi e.symm
    by_cases hl : i < jx_nf k <;> simp [jx_F, jx_sR, jx_u2, hi2, hl]
theorem jx_E_otherI {D : jx_Dt} {L : jx_Ly} {s : jx_St} {c f : Nat} {v : Int32} {c' : Nat} (h : c' ≠ c) : jx_E D L (jx_sI s c f v) c' = jx_E D L s c' := by
  have e1 : (jx_sI s c f v).1 c' = s.1 c' := by funext i; simp [jx_sI, jx_u2, h]
  have e2 : (jx_sI s c f v).2 = s.2 := rfl
  unfold jx_E jx_F
  rw [e1, e2]
theorem jx_E_otherR {D : jx_Dt} {L : jx_Ly} {s : jx_St} {c f v : Nat} {c' : Nat} (h : c' ≠ c) : jx_E D L (jx_sR s c f v) c' = jx_E D L s c' := by
  have e1 : (jx_sR s c f v).2 c' = s.2 c' := by funext i; simp [jx_sR, jx_u2, h]
  have e2 : (jx_sR s c f v).1 = s.1 := rfl
  unfold jx_E jx_F
  rw [e1, e2]
theorem jx_upd_row {s : jx_St} {c i : Nat} {v : Int32} : upd (s.1 c) i v = (jx_sI s c i v).1 c := by
  funext j; simp [jx_sI, jx_u2, upd]
end
section
/-! ===== THE JUDGEMENT: a method's body over a fixed world, and a row an instruction ===== -/
/-- program, launch, environment, room, start, method, arguments, frames below, its row, its code, its locals, what is to be reached -/
abbrev jx_X : Type := Program × Launch × Env × Room × State × MethodId × Array Value × List Frame × Method × Code × Nat × (State → Prop)
abbrev jx_W (X : jx_X) (H : Heap) (locs : List Loc) (g : JFrame) : Prop := W X.1 X.2.1 X.2.2.1 X.2.2.2.1 X.2.2.2.2.1 X.2.2.2.2.2.1 X.2.2.2.2.2.2.1 X.2.2.2.2.2.2.2.1 X.2.2.2.2.2.2.2.2.1 X.2.2.2.2.2.2.2.2.2.1 H locs 0 0 X.2.2.2.2.2.2.2.2.2.2.2 g
abbrev jx_s (X : jx_X) : State := X.2.2.2.2.1
abbrev jx_m (X : jx_X) : MethodId := X.2.2.2.2.2.1
abbrev jx_ar (X : jx_X) : Array Value := X.2.2.2.2.2.2.1
abbrev jx_be (X : jx_X) : List Frame := X.2.2.2.2.2.2.2.1
abbrev jx_me (X : jx_X) : Method := X.2.2.2.2.2.2.2.2.1
abbrev jx_co (X : jx_X) : Code := X.2.2.2.2.2.2.2.2.2.1
abbrev jx_nL (X : jx_X) : Nat := X.2.2.2.2.2.2.2.2.2.2.1
abbrev jx_Q (X : jx_X) : State → Prop := X.2.2.2.2.2.2.2.2.2.2.2
def jx_J (D : jx_Dt) (L : jx_Ly) (X : jx_X) (pc : Nat) (lv : List (Nat × Value)) (st : List Value) (u : jx_St) : Prop :=
  ∀ (H : Heap) (locs : List Loc) (ls : Array Slot), va_P D.1 vwCl (jx_w D L u) H → va_S (jx_A D L) (jx_s X).heap H locs → lv_has ls (jx_nL X) lv → jx_W X H locs (F0 (jx_m X) pc ls st)
/-- what is known in a body: its code cc, its class own, its answer's type, its room, what it owes -/
def jx_K (D : jx_Dt) (L : jx_Ly) (X : jx_X) (cc : ByteArray) (own : String) (nL : Nat) (ret : Option FieldType) (rm : Room) (Qc : Array Value → State → Outcome → State → Prop) : Prop :=
  X.1.tables.exec = Jvm.exec ∧ (jx_co X).code = cc ∧ (jx_co X).maxLocals = nL ∧ (jx_s X).vm.findClass own = some (jx_m X).cls ∧ (∀ w ∈ jx_tb, w.before (jx_ar X) (jx_s X) = true) ∧ (jx_me X).locks = false ∧ (jx_me X).sig.returnType = ret ∧ va_K D.1 vwCl (jx_tys D) (jx_s X) ∧ jx_In D L ∧ jx_Sr D L (jx_s X) (jx_s X).heap ∧ jx_nL X = nL ∧ X.2.2.2.1 = rm ∧ jx_Q X = MQ (jx_be X) Qc (jx_ar X) (jx_s X) 0 0 (jx_A D L)
def jx_Met (l : Launch) (y : MethodName) (cc : ByteArray) (maxL : Nat) (ret : Option FieldType) (rm : Room) (D : jx_Dt) (L : jx_Ly) (args : List Value) (u : jx_St) (Qc : Array Value → State → Outcome → State → Prop) : Prop :=
  Met l y (.code y cc maxL ret :: jx_tb) rm (va_Pc args (fun U => jx_B D L u U)) Qc 0 0 (jx_A D L)
abbrev jx_Qi (D : jx_Dt) (L : jx_Ly) (post : Int32 → jx_St → Prop) : Array Value → State → Outcome → State → Prop := va_Qi post (jx_B D L) (jx_A D L)
abbrev jx_Ql (D : jx_Dt) (L : jx_Ly) (post : Int64 → jx_St → Prop) : Array Value → State → Outcome → State → Prop := va_Ql post (jx_B D L) (jx_A D L)
abbrev jx_Qv (D : jx_Dt) (L : jx_Ly) (post : jx_St → Prop) : Array Value → State → Outcome → State → Prop := va_Qv post (jx_B D L) (jx_A D L)
theorem jx_ofJ {l : Launch} {y : MethodName} {cc : ByteArray} {maxL : Nat} {ret : Option FieldType} {rm : Room} {D : jx_Dt} {L : jx_Ly} {args : List Value} {u : jx_St} {Qc : Array Value → State → Outcome → State → Prop}
    (hy : plainName y.cls = true) (hn : (lg_sl args).length ≤ maxL) (hJ : ∀ X : jx_X, X.2.1 = l → jx_K D L X cc y.cls maxL ret rm Qc → jx_J D L X 0 (lv_args 0 args) [] u) : jx_Met l y cc maxL ret rm D L args u Qc := by
  refine Met.ofW (cc := cc) (maxL := maxL) (ret := ret) hy rfl ?_
  intro p e s m av below meth c s₁ B hml hv
  obtain ⟨rfl, hP, hK, hI, hR⟩ := hv
  have hts := atoms_spec (ws := Cond.code y cc maxL ret :: jx_tb) B.pre
  have hown : s.vm.findClass y.cls = some m.cls := findClass_of_methodNamed B.named
  have hl := lv_entry args (n := maxL) hn
  rw [lg_entry_eq]
  exact hJ (p, l, e, (headSpec (Cond.code y cc maxL ret :: jx_tb) rm).room, s, m, args.toArray, below, meth, c, maxL, MQ below Qc args.toArray s 0 0 (jx_A D L)) rfl
    ⟨B.exec, B.bytes, hml, hown, fun w hw => hts w (List.mem_cons_of_mem _ hw), B.notSynchronized, B.returns, hK, hI, hR, rfl, rfl, rfl⟩ s.heap [] _ hP va_S.rf hl
section JXROWS
variable {D : jx_Dt} {L : jx_Ly} {X : jx_X} {cc : ByteArray} {own : String} {nL : Nat} {ret : Option FieldType} {rm : Room} {Qc : Array Value → State → Outcome → State → Prop} {pc : Nat} {lv : List (Nat × Value)} {st : List Value} {u : jx_St}
theorem jx_sub {lv' : List (Nat × Value)} (ks : List Nat) (h : lv_pick lv ks = lv') (k : jx_J D L X pc lv' st u) : jx_J D L X pc lv st u :=
  fun H locs ls hP hS hl => k H locs ls hP hS (lv_sub hl ks h)
/-- a computed number gets a name -/
theorem jx_eqs {st' : List Value} (h : st = st') (k : jx_J D L X pc lv st' u) : jx_J D L X pc lv st u := h ▸ k
theorem jx_equ {u' : jx_St} (h : u = u') (k : jx_J D L X pc lv st u') : jx_J D L X pc lv st u := h ▸ k
theorem jx_iconst (pc' : Nat) (hX : jx_K D L X cc own nL ret rm Qc) {n : Int} (v : Int32) (hv : Int32.ofInt n = v) (hd : decode cc pc = .ok (.iconst n, 1)) (hp : pc + 1 = pc') (k : jx_J D L X pc' lv (.int v :: st) u) : jx_J D L X pc lv (st) u := by
  subst hp
  exact fun H locs ls hP hS hl => lv_iconst hX.1 hX.2.1 hd hv (k H locs ls hP hS hl)
theorem jx_bipush (pc' : Nat) (hX : jx_K D L X cc own nL ret rm Qc) {n : Int} (v : Int32) (hv : (Int8.ofInt n).toInt32 = v) (hd : decode cc pc = .ok (.bipush n, 2)) (hp : pc + 2 = pc') (k : jx_J D L X pc' lv (.int v :: st) u) : jx_J D L X pc lv (st) u := by
  subst hp
  exact fun H locs ls hP hS hl => lv_bipush hX.1 hX.2.1 hd hv (k H locs ls hP hS hl)
theorem jx_sipush (pc' : Nat) (hX : jx_K D L X cc own nL ret rm Qc) {n : Int} (v : Int32) (hv : (Int16.ofInt n).toInt32 = v) (hd : decode cc pc = .ok (.sipush n, 3)) (hp : pc + 3 = pc') (k : jx_J D L X pc' lv (.int v :: st) u) : jx_J D L X pc lv (st) u := by
  subst hp
  exact fun H locs ls hP hS hl => lv_sipush hX.1 hX.2.1 hd hv (k H locs ls hP hS hl)
theorem jx_lconst (pc' : Nat) (hX : jx_K D L X cc own nL ret rm Qc) {n : Fin 2} (v : Int64) (hv : Int64.ofNat (n : Nat) = v) (hd : decode cc pc = .ok (.lconst n, 1)) (hp : pc + 1 = pc') (k : jx_J D L X pc' lv (.long v :: st) u) : jx_J D L X pc lv (st) u := by
  subst hp
  exact fun H locs ls hP hS hl => lv_lconst hX.1 hX.2.1 hd hv (k H locs ls hP hS hl)
theorem jx_iload_n (pc' : Nat) (hX : jx_K D L X cc own nL ret rm Qc) (q : Nat) {k : Fin 4} {i : Nat} {x : Int32} (hq : lv[q]? = some (i, .int x)) (hi : (k : Nat) = i) (hd : decode cc pc = .ok (.iload_n k, 1)) (hp : pc + 1 = pc') (k : jx_J D L X pc' lv (.int x :: st) u) : jx_J D L X pc lv st u := by
  subst hp
  exact fun H locs ls hP hS hl => lv_iload_n hX.1 hX.2.1 hd hi (lv_at hl q hq) (k H locs ls hP hS hl)
theorem jx_iload (pc' : Nat) (hX : jx_K D L X cc own nL ret rm Qc) (q : Nat) {i : Nat} {x : Int32} (hq : lv[q]? = some (i, .int x)) (hd : decode cc pc = .ok (.iload i, 2)) (hp : pc + 2 = pc') (k : jx_J D L X pc' lv (.int x :: st) u) : jx_J D L X pc lv st u := by
  subst hp
  exact fun H locs ls hP hS hl => lv_iload hX.1 hX.2.1 hd (lv_at hl q hq) (k H locs ls hP hS hl)
theorem jx_istore_n (pc' : Nat) (hX : jx_K D L X cc own nL ret rm Qc) {k : Fin 4} {i : Nat} {x : Int32} (lv' : List (Nat × Value)) (hi : (k : Nat) = i) (hn : i < nL) (hl' : (i, Value.int x) :: lv.filter (fun q => !(q.1 == i) && !(q.1 + 1 == i && q.2.category == 2)) = lv') (hd : decode cc pc = .ok (.istore_n k, 1)) (hp : pc + 1 = pc') (k : jx_J D L X pc' lv' st u) : jx_J D L X pc lv (.int x :: st) u := by
  subst hp
  exact fun H locs ls hP hS hl => lv_istore_n hX.1 hX.2.1 hd hi hl (by rw [hX.2.2.2.2.2.2.2.2.2.2.1]; exact hn) hl' (fun ls' hl2 => k H locs ls' hP hS hl2)
theorem jx_istore (pc' : Nat) (hX : jx_K D L X cc own nL ret rm Qc) {i : Nat} {x : Int32} (lv' : List (Nat × Value)) (hn : i < nL) (hl' : (i, Value.int x) :: lv.filter (fun q => !(q.1 == i) && !(q.1 + 1 == i && q.2.category == 2)) = lv') (hd : decode cc pc = .ok (.istore i, 2)) (hp : pc + 2 = pc') (k : jx_J D L X pc' lv' st u) : jx_J D L X pc lv (.int x :: st) u := by
  subst hp
  exact fun H locs ls hP hS hl => lv_istore hX.1 hX.2.1 hd hl (by rw [hX.2.2.2.2.2.2.2.2.2.2.1]; exact hn) hl' (fun ls' hl2 => k H locs ls' hP hS hl2)
theorem jx_lload_n (pc' : Nat) (hX : jx_K D L X cc own nL ret rm Qc) (q : Nat) {k : Fin 4} {i : Nat} {x : Int64} (hq : lv[q]? = some (i, .long x)) (hi : (k : Nat) = i) (hd : decode cc pc = .ok (.lload_n k, 1)) (hp : pc + 1 = pc') (k : jx_J D L X pc' lv (.long x :: st) u) : jx_J D L X pc lv st u := by
  subst hp
  exact fun H locs ls hP hS hl => lv_lload_n hX.1 hX.2.1 hd hi (lv_at hl q hq) (k H locs ls hP hS hl)
theorem jx_lload (pc' : Nat) (hX : jx_K D L X cc own nL ret rm Qc) (q : Nat) {i : Nat} {x : Int64} (hq : lv[q]? = some (i, .long x)) (hd : decode cc pc = .ok (.lload i, 2)) (hp : pc + 2 = pc') (k : jx_J D L X pc' lv (.long x :: st) u) : jx_J D L X pc lv st u := by
  subst hp
  exact fun H locs ls hP hS hl => lv_lload hX.1 hX.2.1 hd (lv_at hl q hq) (k H locs ls hP hS hl)
theorem jx_lstore_n (pc' : Nat) (hX : jx_K D L X cc own nL ret rm Qc) {k : Fin 4} {i : Nat} {x : Int64} (lv' : List (Nat × Value)) (hi : (k : Nat) = i) (hn : i + 1 < nL) (hl' : (i, Value.long x) :: lv.filter (fun q => !(q.1 == i) && (!(q.1 == i + 1) && !(q.1 + 1 == i && q.2.category == 2))) = lv') (hd : decode cc pc = .ok (.lstore_n k, 1)) (hp : pc + 1 = pc') (k : jx_J D L X pc' lv' st u) : jx_J D L X pc lv (.long x :: st) u := by
  subst hp
  exact fun H locs ls hP hS hl => lv_lstore_n hX.1 hX.2.1 hd hi hl (by rw [hX.2.2.2.2.2.2.2.2.2.2.1]; exact hn) hl' (fun ls' hl2 => k H locs ls' hP hS hl2)
theorem jx_lstore (pc' : Nat) (hX : jx_K D L X cc own nL ret rm Qc) {i : Nat} {x : Int64} (lv' : List (Nat × Value)) (hn : i + 1 < nL) (hl' : (i, Value.long x) :: lv.filter (fun q => !(q.1 == i) && (!(q.1 == i + 1) && !(q.1 + 1 == i && q.2.category == 2))) = lv') (hd : decode cc pc = .ok (.lstore i, 2)) (hp : pc + 2 = pc') (k : jx_J D L X pc' lv' st u) : jx_J D L X pc lv (.long x :: st) u := by
  subst hp
  exact fun H locs ls hP hS hl => lv_lstore hX.1 hX.2.1 hd hl (by rw [hX.2.2.2.2.2.2.2.2.2.2.1]; exact hn) hl' (fun ls' hl2 => k H locs ls' hP hS hl2)
theorem jx_aload_n (pc' : Nat) (hX : jx_K D L X cc own nL ret rm Qc) (q : Nat) {k : Fin 4} {i : Nat} {x : Nat} (hq : lv[q]? = some (i, .ref x)) (hi : (k : Nat) = i) (hd : decode cc pc = .ok (.aload_n k, 1)) (hp : pc + 1 = pc') (k : jx_J D L X pc' lv (.ref x :: st) u) : jx_J D L X pc lv st u := by
  subst hp
  exact fun H locs ls hP hS hl => lv_aload_n hX.1 hX.2.1 hd hi (lv_at hl q hq) (k H locs ls hP hS hl)
theorem jx_aload (pc' : Nat) (hX : jx_K D L X cc own nL ret rm Qc) (q : Nat) {i : Nat} {x : Nat} (hq : lv[q]? = some (i, .ref x)) (hd : decode cc pc = .ok (.aload i, 2)) (hp : pc + 2 = pc') (k : jx_J D L X pc' lv (.ref x :: st) u) : jx_J D L X pc lv st u := by
  subst hp
  exact fun H locs ls hP hS hl => lv_aload hX.1 hX.2.1 hd (lv_at hl q hq) (k H locs ls hP hS hl)
theorem jx_astore_n (pc' : Nat) (hX : jx_K D L X cc own nL ret rm Qc) {k : Fin 4} {i : Nat} {x : Nat} (lv' : List (Nat × Value)) (hi : (k : Nat) = i) (hn : i < nL) (hl' : (i, Value.ref x) :: lv.filter (fun q => !(q.1 == i) && !(q.1 + 1 == i && q.2.category == 2)) = lv') (hd : decode cc pc = .ok (.astore_n k, 1)) (hp : pc + 1 = pc') (k : jx_J D L X pc' lv' st u) : jx_J D L X pc lv (.ref x :: st) u := by
  subst hp
  exact fun H locs ls hP hS hl => lv_astore_n hX.1 hX.2.1 hd hi hl (by rw [hX.2.2.2.2.2.2.2.2.2.2.1]; exact hn) hl' (fun ls' hl2 => k H locs ls' hP hS hl2)
theorem jx_astore (pc' : Nat) (hX : jx_K D L X cc own nL ret rm Qc) {i : Nat} {x : Nat} (lv' : List (Nat × Value)) (hn : i < nL) (hl' : (i, Value.ref x) :: lv.filter (fun q => !(q.1 == i) && !(q.1 + 1 == i && q.2.category == 2)) = lv') (hd : decode cc pc = .ok (.astore i, 2)) (hp : pc + 2 = pc') (k : jx_J D L X pc' lv' st u) : jx_J D L X pc lv (.ref x :: st) u := by
  subst hp
  exact fun H locs ls hP hS hl => lv_astore hX.1 hX.2.1 hd hl (by rw [hX.2.2.2.2.2.2.2.2.2.2.1]; exact hn) hl' (fun ls' hl2 => k H locs ls' hP hS hl2)
theorem jx_iinc (pc' : Nat) (hX : jx_K D L X cc own nL ret rm Qc) (q : Nat) {i : Nat} {n : Int} {x : Int32} (v : Int32) (lv' : List (Nat × Value)) (hq : lv[q]? = some (i, .int x)) (hv : x + Int32.ofInt n = v) (hn : i < nL) (hl' : (i, Value.int v) :: lv.filter (fun q => !(q.1 == i) && !(q.1 + 1 == i && q.2.category == 2)) = lv') (hd : decode cc pc = .ok (.iinc i n, 3)) (hp : pc + 3 = pc') (k : jx_J D L X pc' lv' st u) : jx_J D L X pc lv st u := by
  subst hp
  exact fun H locs ls hP hS hl => lv_iinc hX.1 hX.2.1 hd hl hq hv (by rw [hX.2.2.2.2.2.2.2.2.2.2.1]; exact hn) hl' (fun ls' hl2 => k H locs ls' hP hS hl2)
theorem jx_iadd (pc' : Nat) (hX : jx_K D L X cc own nL ret rm Qc) {x y : Int32} (hd : decode cc pc = .ok (.iadd, 1)) (hp : pc + 1 = pc') (k : jx_J D L X pc' lv (.int (x + y) :: st) u) : jx_J D L X pc lv (.int y :: .int x :: st) u := by
  subst hp
  exact fun H locs ls hP hS hl => lv_iadd hX.1 hX.2.1 hd  (k H locs ls hP hS hl)
theorem jx_isub (pc' : Nat) (hX : jx_K D L X cc own nL ret rm Qc) {x y : Int32} (hd : decode cc pc = .ok (.isub, 1)) (hp : pc + 1 = pc') (k : jx_J D L X pc' lv (.int (x - y) :: st) u) : jx_J D L X pc lv (.int y :: .int x :: st) u := by
  subst hp
  exact fun H locs ls hP hS hl => lv_isub hX.1 hX.2.1 hd  (k H locs ls hP hS hl)
theorem jx_imul (pc' : Nat) (hX : jx_K D L X cc own nL ret rm Qc) {x y : Int32} (hd : decode cc pc = .ok (.imul, 1)) (hp : pc + 1 = pc') (k : jx_J D L X pc' lv (.int (x * y) :: st) u) : jx_J D L X pc lv (.int y :: .int x :: st) u := by
  subst hp
  exact fun H locs ls hP hS hl => lv_imul hX.1 hX.2.1 hd  (k H locs ls hP hS hl)
theorem jx_iand (pc' : Nat) (hX : jx_K D L X cc own nL ret rm Qc) {x y : Int32} (hd : decode cc pc = .ok (.iand, 1)) (hp : pc + 1 = pc') (k : jx_J D L X pc' lv (.int (x &&& y) :: st) u) : jx_J D L X pc lv (.int y :: .int x :: st) u := by
  subst hp
  exact fun H locs ls hP hS hl => lv_iand hX.1 hX.2.1 hd  (k H locs ls hP hS hl)
theorem jx_ior (pc' : Nat) (hX : jx_K D L X cc own nL ret rm Qc) {x y : Int32} (hd : decode cc pc = .ok (.ior, 1)) (hp : pc + 1 = pc') (k : jx_J D L X pc' lv (.int (x ||| y) :: st) u) : jx_J D L X pc lv (.int y :: .int x :: st) u := by
  subst hp
  exact fun H locs ls hP hS hl => lv_ior hX.1 hX.2.1 hd  (k H locs ls hP hS hl)
theorem jx_ixor (pc' : Nat) (hX : jx_K D L X cc own nL ret rm Qc) {x y : Int32} (hd : decode cc pc = .ok (.ixor, 1)) (hp : pc + 1 = pc') (k : jx_J D L X pc' lv (.int (x ^^^ y) :: st) u) : jx_J D L X pc lv (.int y :: .int x :: st) u := by
  subst hp
  exact fun H locs ls hP hS hl => lv_ixor hX.1 hX.2.1 hd  (k H locs ls hP hS hl)
theorem jx_ishl (pc' : Nat) (hX : jx_K D L X cc own nL ret rm Qc) {x y : Int32} (hd : decode cc pc = .ok (.ishl, 1)) (hp : pc + 1 = pc') (k : jx_J D L X pc' lv (.int (x <<< (y &&& 31)) :: st) u) : jx_J D L X pc lv (.int y :: .int x :: st) u := by
  subst hp
  exact fun H locs ls hP hS hl => lv_ishl hX.1 hX.2.1 hd  (k H locs ls hP hS hl)
theorem jx_ishr (pc' : Nat) (hX : jx_K D L X cc own nL ret rm Qc) {x y : Int32} (hd : decode cc pc = .ok (.ishr, 1)) (hp : pc + 1 = pc') (k : jx_J D L X pc' lv (.int (x >>> (y &&& 31)) :: st) u) : jx_J D L X pc lv (.int y :: .int x :: st) u := by
  subst hp
  exact fun H locs ls hP hS hl => lv_ishr hX.1 hX.2.1 hd  (k H locs ls hP hS hl)
theorem jx_idiv (pc' : Nat) (hX : jx_K D L X cc own nL ret rm Qc) {x y : Int32} (hne : ¬ y = 0) (hd : decode cc pc = .ok (.idiv, 1)) (hp : pc + 1 = pc') (k : jx_J D L X pc' lv (.int (x / y) :: st) u) : jx_J D L X pc lv (.int y :: .int x :: st) u := by
  subst hp
  exact fun H locs ls hP hS hl => lv_idiv hX.1 hX.2.1 hd hne (k H locs ls hP hS hl)
theorem jx_irem (pc' : Nat) (hX : jx_K D L X cc own nL ret rm Qc) {x y : Int32} (hne : ¬ y = 0) (hd : decode cc pc = .ok (.irem, 1)) (hp : pc + 1 = pc') (k : jx_J D L X pc' lv (.int (x - x / y * y) :: st) u) : jx_J D L X pc lv (.int y :: .int x :: st) u := by
  subst hp
  exact fun H locs ls hP hS hl => lv_irem hX.1 hX.2.1 hd hne (k H locs ls hP hS hl)
theorem jx_ineg (pc' : Nat) (hX : jx_K D L X cc own nL ret rm Qc) {x : Int32} (hd : decode cc pc = .ok (.ineg, 1)) (hp : pc + 1 = pc') (k : jx_J D L X pc' lv (.int (-x) :: st) u) : jx_J D L X pc lv (.int x :: st) u := by
  subst hp
  exact fun H locs ls hP hS hl => lv_ineg hX.1 hX.2.1 hd  (k H locs ls hP hS hl)
theorem jx_ladd (pc' : Nat) (hX : jx_K D L X cc own nL ret rm Qc) {x y : Int64} (hd : decode cc pc = .ok (.ladd, 1)) (hp : pc + 1 = pc') (k : jx_J D L X pc' lv (.long (x + y) :: st) u) : jx_J D L X pc lv (.long y :: .long x :: st) u := by
  subst hp
  exact fun H locs ls hP hS hl => lv_ladd hX.1 hX.2.1 hd  (k H locs ls hP hS hl)
theorem jx_lsub (pc' : Nat) (hX : jx_K D L X cc own nL ret rm Qc) {x y : Int64} (hd : decode cc pc = .ok (.lsub, 1)) (hp : pc + 1 = pc') (k : jx_J D L X pc' lv (.long (x - y) :: st) u) : jx_J D L X pc lv (.long y :: .long x :: st) u := by
  subst hp
  exact fun H locs ls hP hS hl => lv_lsub hX.1 hX.2.1 hd  (k H locs ls hP hS hl)
theorem jx_lmul (pc' : Nat) (hX : jx_K D L X cc own nL ret rm Qc) {x y : Int64} (hd : decode cc pc = .ok (.lmul, 1)) (hp : pc + 1 = pc') (k : jx_J D L X pc' lv (.long (x * y) :: st) u) : jx_J D L X pc lv (.long y :: .long x :: st) u := by
  subst hp
  exact fun H locs ls hP hS hl => lv_lmul hX.1 hX.2.1 hd  (k H locs ls hP hS hl)
theorem jx_land (pc' : Nat) (hX : jx_K D L X cc own nL ret rm Qc) {x y : Int64} (hd : decode cc pc = .ok (.land, 1)) (hp : pc + 1 = pc') (k : jx_J D L X pc' lv (.long (x &&& y) :: st) u) : jx_J D L X pc lv (.long y :: .long x :: st) u := by
  subst hp
  exact fun H locs ls hP hS hl => lv_land hX.1 hX.2.1 hd  (k H locs ls hP hS hl)
theorem jx_lor (pc' : Nat) (hX : jx_K D L X cc own nL ret rm Qc) {x y : Int64} (hd : decode cc pc = .ok (.lor, 1)) (hp : pc + 1 = pc') (k : jx_J D L X pc' lv (.long (x ||| y) :: st) u) : jx_J D L X pc lv (.long y :: .long x :: st) u := by
  subst hp
  exact fun H locs ls hP hS hl => lv_lor hX.1 hX.2.1 hd  (k H locs ls hP hS hl)
theorem jx_lshl (pc' : Nat) (hX : jx_K D L X cc own nL ret rm Qc) {x : Int64} {y : Int32} (hd : decode cc pc = .ok (.lshl, 1)) (hp : pc + 1 = pc') (k : jx_J D L X pc' lv (.long (x <<< (y.toInt64 &&& 63)) :: st) u) : jx_J D L X pc lv (.int y :: .long x :: st) u := by
  subst hp
  exact fun H locs ls hP hS hl => lv_lshl hX.1 hX.2.1 hd rfl (k H locs ls hP hS hl)
theorem jx_lshr (pc' : Nat) (hX : jx_K D L X cc own nL ret rm Qc) {x : Int64} {y : Int32} (hd : decode cc pc = .ok (.lshr, 1)) (hp : pc + 1 = pc') (k : jx_J D L X pc' lv (.long (x >>> (y.toInt64 &&& 63)) :: st) u) : jx_J D L X pc lv (.int y :: .long x :: st) u := by
  subst hp
  exact fun H locs ls hP hS hl => lv_lshr hX.1 hX.2.1 hd rfl (k H locs ls hP hS hl)
theorem jx_lcmp (pc' : Nat) (hX : jx_K D L X cc own nL ret rm Qc) {x y : Int64} (hd : decode cc pc = .ok (.lcmp, 1)) (hp : pc + 1 = pc') (k : jx_J D L X pc' lv (.int (lg_cmp x y) :: st) u) : jx_J D L X pc lv (.long y :: .long x :: st) u := by
  subst hp
  exact fun H locs ls hP hS hl => W.lcmp hX.1 hX.2.1 hd  (k H locs ls hP hS hl)
theorem jx_i2l (pc' : Nat) (hX : jx_K D L X cc own nL ret rm Qc) {x : Int32} (hd : decode cc pc = .ok (.i2l, 1)) (hp : pc + 1 = pc') (k : jx_J D L X pc' lv (.long x.toInt64 :: st) u) : jx_J D L X pc lv (.int x :: st) u := by
  subst hp
  exact fun H locs ls hP hS hl => lv_i2l hX.1 hX.2.1 hd rfl (k H locs ls hP hS hl)
theorem jx_l2i (pc' : Nat) (hX : jx_K D L X cc own nL ret rm Qc) {x : Int64} (hd : decode cc pc = .ok (.l2i, 1)) (hp : pc + 1 = pc') (k : jx_J D L X pc' lv (.int x.toInt32 :: st) u) : jx_J D L X pc lv (.long x :: st) u := by
  subst hp
  exact fun H locs ls hP hS hl => lv_l2i hX.1 hX.2.1 hd rfl (k H locs ls hP hS hl)
theorem jx_i2c (pc' : Nat) (hX : jx_K D L X cc own nL ret rm Qc) {x : Int32} (hd : decode cc pc = .ok (.i2c, 1)) (hp : pc + 1 = pc') (k : jx_J D L X pc' lv (.int (x.toUInt32 % 65536).toInt32 :: st) u) : jx_J D L X pc lv (.int x :: st) u := by
  subst hp
  exact fun H locs ls hP hS hl => lv_i2c hX.1 hX.2.1 hd rfl (k H locs ls hP hS hl)
theorem jx_dup (pc' : Nat) (hX : jx_K D L X cc own nL ret rm Qc) {va : Value} (hva : va.category = 1) (hd : decode cc pc = .ok (.dup, 1)) (hp : pc + 1 = pc') (k : jx_J D L X pc' lv (va :: va :: st) u) : jx_J D L X pc lv (va :: st) u := by
  subst hp
  exact fun H locs ls hP hS hl => lv_dup hX.1 hX.2.1 hd hva (k H locs ls hP hS hl)
theorem jx_pop (pc' : Nat) (hX : jx_K D L X cc own nL ret rm Qc) {va : Value} (hva : va.category = 1) (hd : decode cc pc = .ok (.pop, 1)) (hp : pc + 1 = pc') (k : jx_J D L X pc' lv (st) u) : jx_J D L X pc lv (va :: st) u := by
  subst hp
  exact fun H locs ls hP hS hl => lv_pop hX.1 hX.2.1 hd hva (k H locs ls hP hS hl)
theorem jx_dup_x1 (pc' : Nat) (hX : jx_K D L X cc own nL ret rm Qc) {va vb : Value} (hva : va.category = 1) (hvb : vb.category = 1) (hd : decode cc pc = .ok (.dup_x1, 1)) (hp : pc + 1 = pc') (k : jx_J D L X pc' lv (va :: vb :: va :: st) u) : jx_J D L X pc lv (va :: vb :: st) u := by
  subst hp
  exact fun H locs ls hP hS hl => lv_dup_x1 hX.1 hX.2.1 hd hva hvb (k H locs ls hP hS hl)
theorem jx_dup2_11 (pc' : Nat) (hX : jx_K D L X cc own nL ret rm Qc) {va vb : Value} (hva : va.category = 1) (hvb : vb.category = 1) (hd : decode cc pc = .ok (.dup2, 1)) (hp : pc + 1 = pc') (k : jx_J D L X pc' lv (va :: vb :: va :: vb :: st) u) : jx_J D L X pc lv (va :: vb :: st) u := by
  subst hp
  exact fun H locs ls hP hS hl => lv_dup2_11 hX.1 hX.2.1 hd hva hvb (k H locs ls hP hS hl)
theorem jx_dup_x2 (pc' : Nat) (hX : jx_K D L X cc own nL ret rm Qc) {va vb vd : Value} (hva : va.category = 1) (hvb : vb.category = 1) (hvd : vd.category = 1) (hd : decode cc pc = .ok (.dup_x2, 1)) (hp : pc + 1 = pc') (k : jx_J D L X pc' lv (va :: vb :: vd :: va :: st) u) : jx_J D L X pc lv (va :: vb :: vd :: st) u := by
  subst hp
  exact fun H locs ls hP hS hl => lv_dup_x2 hX.1 hX.2.1 hd hva hvb hvd (k H locs ls hP hS hl)
theorem jx_ldc (pc' : Nat) (hX : jx_K D L X cc own nL ret rm Qc) {index : Nat} {v : Int32} (hw : Cond.constant own index v ∈ jx_tb) (hd : decode cc pc = .ok (.ldc index, 2)) (hp : pc + 2 = pc') (k : jx_J D L X pc' lv (.int v :: st) u) : jx_J D L X pc lv (st) u := by
  subst hp
  exact fun H locs ls hP hS hl => lv_ldc hX.1 hX.2.1 hX.2.2.2.1 (hX.2.2.2.2.1 _ hw) hd (k H locs ls hP hS hl)
theorem jx_ldc2 (pc' : Nat) (hX : jx_K D L X cc own nL ret rm Qc) {index : Nat} {v : Int64} (hw : Cond.constantLong own index v ∈ jx_tb) (hd : decode cc pc = .ok (.ldc2_w index, 3)) (hp : pc + 3 = pc') (k : jx_J D L X pc' lv (.long v :: st) u) : jx_J D L X pc lv (st) u := by
  subst hp
  exact fun H locs ls hP hS hl => lv_ldc2 hX.1 hX.2.1 hX.2.2.2.1 (hX.2.2.2.2.1 _ hw) hd (k H locs ls hP hS hl)
theorem jx_if_eq (pc' tgt : Nat) (hX : jx_K D L X cc own nL ret rm Qc) {x : Int32} {off : Int} (hd : decode cc pc = .ok (.ifCond .eq off, 3)) (hp : pc + 3 = pc') (ht : (pc : Int) + off = (tgt : Int)) (kt : (x = 0) → jx_J D L X tgt lv st u) (kf : (¬ x = 0) → jx_J D L X pc' lv st u) : jx_J D L X pc lv (.int x :: st) u := by
  subst hp
  exact fun H locs ls hP hS hl => lv_if_eq hX.1 hX.2.1 hd ht (fun h => kt h H locs ls hP hS hl) (fun h => kf h H locs ls hP hS hl)
theorem jx_icmp_eq (pc' tgt : Nat) (hX : jx_K D L X cc own nL ret rm Qc) {x y : Int32} {off : Int} (hd : decode cc pc = .ok (.if_icmp .eq off, 3)) (hp : pc + 3 = pc') (ht : (pc : Int) + off = (tgt : Int)) (kt : (x = y) → jx_J D L X tgt lv st u) (kf : (¬ x = y) → jx_J D L X pc' lv st u) : jx_J D L X pc lv (.int y :: .int x :: st) u := by
  subst hp
  exact fun H locs ls hP hS hl => lv_icmp_eq hX.1 hX.2.1 hd ht (fun h => kt h H locs ls hP hS hl) (fun h => kf h H locs ls hP hS hl)
theorem jx_if_ne (pc' tgt : Nat) (hX : jx_K D L X cc own nL ret rm Qc) {x : Int32} {off : Int} (hd : decode cc pc = .ok (.ifCond .ne off, 3)) (hp : pc + 3 = pc') (ht : (pc : Int) + off = (tgt : Int)) (kt : (¬ x = 0) → jx_J D L X tgt lv st u) (kf : (x = 0) → jx_J D L X pc' lv st u) : jx_J D L X pc lv (.int x :: st) u := by
  subst hp
  exact fun H locs ls hP hS hl => lv_if_ne hX.1 hX.2.1 hd ht (fun h => kt h H locs ls hP hS hl) (fun h => kf h H locs ls hP hS hl)
theorem jx_icmp_ne (pc' tgt : Nat) (hX : jx_K D L X cc own nL ret rm Qc) {x y : Int32} {off : Int} (hd : decode cc pc = .ok (.if_icmp .ne off, 3)) (hp : pc + 3 = pc') (ht : (pc : Int) + off = (tgt : Int)) (kt : (¬ x = y) → jx_J D L X tgt lv st u) (kf : (x = y) → jx_J D L X pc' lv st u) : jx_J D L X pc lv (.int y :: .int x :: st) u := by
  subst hp
  exact fun H locs ls hP hS hl => lv_icmp_ne hX.1 hX.2.1 hd ht (fun h => kt h H locs ls hP hS hl) (fun h => kf h H locs ls hP hS hl)
theorem jx_if_lt (pc' tgt : Nat) (hX : jx_K D L X cc own nL ret rm Qc) {x : Int32} {off : Int} (hd : decode cc pc = .ok (.ifCond .lt off, 3)) (hp : pc + 3 = pc') (ht : (pc : Int) + off = (tgt : Int)) (kt : (x < 0) → jx_J D L X tgt lv st u) (kf : (¬ x < 0) → jx_J D L X pc' lv st u) : jx_J D L X pc lv (.int x :: st) u := by
  subst hp
  exact fun H locs ls hP hS hl => lv_if_lt hX.1 hX.2.1 hd ht (fun h => kt h H locs ls hP hS hl) (fun h => kf h H locs ls hP hS hl)
theorem jx_icmp_lt (pc' tgt : Nat) (hX : jx_K D L X cc own nL ret rm Qc) {x y : Int32} {off : Int} (hd : decode cc pc = .ok (.if_icmp .lt off, 3)) (hp : pc + 3 = pc') (ht : (pc : Int) + off = (tgt : Int)) (kt : (x < y) → jx_J D L X tgt lv st u) (kf : (¬ x < y) → jx_J D L X pc' lv st u) : jx_J D L X pc lv (.int y :: .int x :: st) u := by
  subst hp
  exact fun H locs ls hP hS hl => lv_icmp_lt hX.1 hX.2.1 hd ht (fun h => kt h H locs ls hP hS hl) (fun h => kf h H locs ls hP hS hl)
theorem jx_if_ge (pc' tgt : Nat) (hX : jx_K D L X cc own nL ret rm Qc) {x : Int32} {off : Int} (hd : decode cc pc = .ok (.ifCond .ge off, 3)) (hp : pc + 3 = pc') (ht : (pc : Int) + off = (tgt : Int)) (kt : (0 ≤ x) → jx_J D L X tgt lv st u) (kf : (¬ 0 ≤ x) → jx_J D L X pc' lv st u) : jx_J D L X pc lv (.int x :: st) u := by
  subst hp
  exact fun H locs ls hP hS hl => lv_if_ge hX.1 hX.2.1 hd ht (fun h => kt h H locs ls hP hS hl) (fun h => kf h H locs ls hP hS hl)
theorem jx_icmp_ge (pc' tgt : Nat) (hX : jx_K D L X cc own nL ret rm Qc) {x y : Int32} {off : Int} (hd : decode cc pc = .ok (.if_icmp .ge off, 3)) (hp : pc + 3 = pc') (ht : (pc : Int) + off = (tgt : Int)) (kt : (y ≤ x) → jx_J D L X tgt lv st u) (kf : (¬ y ≤ x) → jx_J D L X pc' lv st u) : jx_J D L X pc lv (.int y :: .int x :: st) u := by
  subst hp
  exact fun H locs ls hP hS hl => lv_icmp_ge hX.1 hX.2.1 hd ht (fun h => kt h H locs ls hP hS hl) (fun h => kf h H locs ls hP hS hl)
theorem jx_if_gt (pc' tgt : Nat) (hX : jx_K D L X cc own nL ret rm Qc) {x : Int32} {off : Int} (hd : decode cc pc = .ok (.ifCond .gt off, 3)) (hp : pc + 3 = pc') (ht : (pc : Int) + off = (tgt : Int)) (kt : (0 < x) → jx_J D L X tgt lv st u) (kf : (¬ 0 < x) → jx_J D L X pc' lv st u) : jx_J D L X pc lv (.int x :: st) u := by
  subst hp
  exact fun H locs ls hP hS hl => lv_if_gt hX.1 hX.2.1 hd ht (fun h => kt h H locs ls hP hS hl) (fun h => kf h H locs ls hP hS hl)
theorem jx_icmp_gt (pc' tgt : Nat) (hX : jx_K D L X cc own nL ret rm Qc) {x y : Int32} {off : Int} (hd : decode cc pc = .ok (.if_icmp .gt off, 3)) (hp : pc + 3 = pc') (ht : (pc : Int) + off = (tgt : Int)) (kt : (y < x) → jx_J D L X tgt lv st u) (kf : (¬ y < x) → jx_J D L X pc' lv st u) : jx_J D L X pc lv (.int y :: .int x :: st) u := by
  subst hp
  exact fun H locs ls hP hS hl => lv_icmp_gt hX.1 hX.2.1 hd ht (fun h => kt h H locs ls hP hS hl) (fun h => kf h H locs ls hP hS hl)
theorem jx_if_le (pc' tgt : Nat) (hX : jx_K D L X cc own nL ret rm Qc) {x : Int32} {off : Int} (hd : decode cc pc = .ok (.ifCond .le off, 3)) (hp : pc + 3 = pc') (ht : (pc : Int) + off = (tgt : Int)) (kt : (x ≤ 0) → jx_J D L X tgt lv st u) (kf : (¬ x ≤ 0) → jx_J D L X pc' lv st u) : jx_J D L X pc lv (.int x :: st) u := by
  subst hp
  exact fun H locs ls hP hS hl => lv_if_le hX.1 hX.2.1 hd ht (fun h => kt h H locs ls hP hS hl) (fun h => kf h H locs ls hP hS hl)
theorem jx_icmp_le (pc' tgt : Nat) (hX : jx_K D L X cc own nL ret rm Qc) {x y : Int32} {off : Int} (hd : decode cc pc = .ok (.if_icmp .le off, 3)) (hp : pc + 3 = pc') (ht : (pc : Int) + off = (tgt : Int)) (kt : (x ≤ y) → jx_J D L X tgt lv st u) (kf : (¬ x ≤ y) → jx_J D L X pc' lv st u) : jx_J D L X pc lv (.int y :: .int x :: st) u := by
  subst hp
  exact fun H locs ls hP hS hl => lv_icmp_le hX.1 hX.2.1 hd ht (fun h => kt h H locs ls hP hS hl) (fun h => kf h H locs ls hP hS hl)
theorem jx_goto (tgt : Nat) (hX : jx_K D L X cc own nL ret rm Qc) {off : Int} (hd : decode cc pc = .ok (.goto off, 3)) (ht : (pc : Int) + off = (tgt : Int)) (k : jx_J D L X tgt lv st u) : jx_J D L X pc lv st u :=
  fun H locs ls hP hS hl => lv_goto hX.1 hX.2.1 hd ht (k H locs ls hP hS hl)
theorem jx_lookup (tgt : Nat) (hX : jx_K D L X cc own nL ret rm Qc) {dflt : Int} {ps : Array (Int × Int)} {len : Nat} {x : Int32} {off : Int} (hd : decode cc pc = .ok (.lookupswitch dflt ps, len)) (hs : (ps.toList.zip (ps.toList.drop 1)).all (fun (a, next) => a.1 < next.1) = true) (ho : Op.lookupswitch.offset ps.toList dflt x.toInt = off) (ht : (pc : Int) + off = (tgt : Int)) (k : jx_J D L X tgt lv st u) : jx_J D L X pc lv (.int x :: st) u :=
  fun H locs ls hP hS hl => lv_lookup hX.1 hX.2.1 hd hs ho ht (k H locs ls hP hS hl)
theorem jx_tabOut (tgt : Nat) (hX : jx_K D L X cc own nL ret rm Qc) {dflt lo hi : Int} {offs : Array Int} {len : Nat} {x : Int32} (hd : decode cc pc = .ok (.tableswitch dflt lo hi offs, len)) (h : x.toInt < lo ∨ hi < x.toInt) (ht : (pc : Int) + dflt = (tgt : Int)) (k : jx_J D L X tgt lv st u) : jx_J D L X pc lv (.int x :: st) u :=
  fun H locs ls hP hS hl => lv_tableOut hX.1 hX.2.1 hd h ht (k H locs ls hP hS hl)
theorem jx_tabIn (tgt : Nat) (hX : jx_K D L X cc own nL ret rm Qc) {dflt lo hi : Int} {offs : Array Int} {len : Nat} {x : Int32} {off : Int} (hd : decode cc pc = .ok (.tableswitch dflt lo hi offs, len)) (h1 : ¬ x.toInt < lo) (h2 : ¬ hi < x.toInt) (ho : offs[(x.toInt - lo).toNat]? = some off) (ht : (pc : Int) + off = (tgt : Int)) (k : jx_J D L X tgt lv st u) : jx_J D L X pc lv (.int x :: st) u :=
  fun H locs ls hP hS hl => lv_tableIn hX.1 hX.2.1 hd h1 h2 ho ht (k H locs ls hP hS hl)
/-- cell c is there, and is an object of class ci (or an array of kind ci) -/
def jx_ok (L : jx_Ly) (ci c : Nat) : Prop := c < L.2 ∧ (L.1 c).1 = ci
/-- field f of class ci under the entry idx of own's pool; it may be written -/
def jx_fg (own : String) (idx ci f : Nat) : Prop := ci ≤ 4 ∧ ∃ (C : String) (T : u_T), vwCl[ci]? = some (C, T, jx_nf ci) ∧ f < jx_nf ci ∧ (∀ w ∈ u_ws C T (jx_nf ci), w ∈ jx_tb) ∧ Cond.fieldLink own idx (T f).1 (T f).2.1 (T f).2.2.1 ∈ jx_tb
def jx_fp (own : String) (idx ci f : Nat) (ty : FieldType) : Prop := ci ≤ 4 ∧ ∃ (C : String) (T : u_T) (ty0 : Nat → FieldType), vwCl[ci]? = some (C, T, jx_nf ci) ∧ f < jx_nf ci ∧ (∀ w ∈ u_ws C T (jx_nf ci), w ∈ jx_tb) ∧ Cond.fieldLink own idx (T f).1 (T f).2.1 (T f).2.2.1 ∈ jx_tb ∧ (∀ k, k < jx_nf ci → parseFieldDescriptor (T k).2.2.1 = some (ty0 k)) ∧ (∀ a, a < jx_nf ci → ∀ b, b < jx_nf ci → a ≠ b → (T a).2.1 ≠ (T b).2.1) ∧ (T f).2.2.2 = false ∧ parseFieldDescriptor (T f).2.2.1 = some ty
theorem jx_getI (pc' : Nat) (hX : jx_K D L X cc own nL ret rm Qc) {idx ci f c : Nat} (hf : jx_fg own idx ci f) (hr : jx_isR ci f = false) (hc : jx_ok L ci c) (hd : decode cc pc = .ok (.getfield idx, 3)) (hp : pc + 3 = pc') (k : jx_J D L X pc' lv (.int (u.1 c f) :: st) u) : jx_J D L X pc lv (.ref (D.2.1 c) :: st) u := by
  subst hp
  obtain ⟨h4, C, T, h1, h2, h3, h5⟩ := hf
  exact fun H locs ls hP hS hl => va_get (ci := ci) (fs := jx_F D u ci c) hX.1 hX.2.1 hX.2.2.2.2.1 h3 hX.2.2.2.1 hX.2.2.2.2.2.2.2.1 hP c (by rw [jx_w_at hc.1, jx_E_obj hc.2 h4]) h1 f h2 (hX.2.2.2.2.1 _ h5) (fun _ h => h) (jx_F_int h2 hr) hd (k H locs ls hP hS hl)
theorem jx_getR (pc' : Nat) (hX : jx_K D L X cc own nL ret rm Qc) {idx ci f c : Nat} (hf : jx_fg own idx ci f) (hr : jx_isR ci f = true) (hc : jx_ok L ci c) (hd : decode cc pc = .ok (.getfield idx, 3)) (hp : pc + 3 = pc') (k : jx_J D L X pc' lv (.ref (D.2.1 (u.2 c f)) :: st) u) : jx_J D L X pc lv (.ref (D.2.1 c) :: st) u := by
  subst hp
  obtain ⟨h4, C, T, h1, h2, h3, h5⟩ := hf
  exact fun H locs ls hP hS hl => va_get (ci := ci) (fs := jx_F D u ci c) hX.1 hX.2.1 hX.2.2.2.2.1 h3 hX.2.2.2.1 hX.2.2.2.2.2.2.2.1 hP c (by rw [jx_w_at hc.1, jx_E_obj hc.2 h4]) h1 f h2 (hX.2.2.2.2.1 _ h5) (fun _ h => h) (jx_F_ref h2 hr) hd (k H locs ls hP hS hl)
theorem jx_putI (pc' : Nat) (hX : jx_K D L X cc own nL ret rm Qc) {idx ci f c : Nat} {v : Int32} (hf : jx_fp own idx ci f .int) (hr : jx_isR ci f = false) (hc : jx_ok L ci c) (hd : decode cc pc = .ok (.putfield idx, 3)) (hp : pc + 3 = pc') (k : jx_J D L X pc' lv st (jx_sI u c f v)) : jx_J D L X pc lv (.int v :: .ref (D.2.1 c) :: st) u := by
  subst hp
  obtain ⟨h4, C, T, ty0, h1, h2, h3, h5, h6, h7, h8, h9⟩ := hf
  intro H locs ls hP hS hl
  refine va_put (ci := ci) (fs := jx_F D u ci c) (v := .int v) (ty := .int) hX.1 hX.2.1 hX.2.2.2.2.1 h3 ty0 h6 h7 hX.2.2.2.1 hX.2.2.2.2.2.2.2.1 hP (jx_D_of hX.2.2.2.2.2.2.2.2.1) hS c (by rw [jx_w_at hc.1, jx_E_obj hc.2 h4]) h1 f h2 (hX.2.2.2.2.1 _ h5) (fun _ h => h) h8 h9 rfl rfl (by rw [jx_F_len]; exact h2) hd (fun H1 locs1 hP1 _ hS1 => ?_)
  rw [jx_F_setI hr, jx_w_set (s2 := jx_sI u c f v) hc.1 (jx_E_obj hc.2 h4) (fun c' h => jx_E_otherI h)] at hP1
  exact k H1 locs1 ls hP1 hS1 hl
theorem jx_putR (pc' : Nat) (hX : jx_K D L X cc own nL ret rm Qc) {idx ci f c v : Nat} {ty : FieldType} (hf : jx_fp own idx ci f ty) (hn : ∀ z : Nat, narrow ty (.ref z) = .ref z) (hfit : ∀ z : Nat, fits ty (.ref z) = true) (hr : jx_isR ci f = true) (hc : jx_ok L ci c) (hd : decode cc pc = .ok (.putfield idx, 3)) (hp : pc + 3 = pc') (k : jx_J D L X pc' lv st (jx_sR u c f v)) : jx_J D L X pc lv (.ref (D.2.1 v) :: .ref (D.2.1 c) :: st) u := by
  subst hp
  obtain ⟨h4, C, T, ty0, h1, h2, h3, h5, h6, h7, h8, h9⟩ := hf
  intro H locs ls hP hS hl
  refine va_put (ci := ci) (fs := jx_F D u ci c) (v := .ref (D.2.1 v)) (ty := ty) hX.1 hX.2.1 hX.2.2.2.2.1 h3 ty0 h6 h7 hX.2.2.2.1 hX.2.2.2.2.2.2.2.1 hP (jx_D_of hX.2.2.2.2.2.2.2.2.1) hS c (by rw [jx_w_at hc.1, jx_E_obj hc.2 h4]) h1 f h2 (hX.2.2.2.2.1 _ h5) (fun _ h => h) h8 h9 (hn _) (hfit _) (by rw [jx_F_len]; exact h2) hd (fun H1 locs1 hP1 _ hS1 => ?_)
  rw [jx_F_setR hr, jx_w_set (s2 := jx_sR u c f v) hc.1 (jx_E_obj hc.2 h4) (fun c' h => jx_E_otherR h)] at hP1
  exact k H1 locs1 ls hP1 hS1 hl
/-- place i of array c -/
def jx_ix (L : jx_Ly) (ci c : Nat) (i : Int32) : Prop := jx_ok L ci c ∧ vp_in i (L.1 c).2
theorem jx_caload (pc' : Nat) (hX : jx_K D L X cc own nL ret rm Qc) {c : Nat} {i : Int32} (hc : jx_ix L 5 c i) (hd : decode cc pc = .ok (.caload, 1)) (hp : pc + 1 = pc') (k : jx_J D L X pc' lv (.int (u.1 c i.toNatClampNeg) :: st) u) : jx_J D L X pc lv (.int i :: .ref (D.2.1 c) :: st) u := by
  subst hp
  exact fun H locs ls hP hS hl => va_cald hX.1 hX.2.1 hX.2.2.2.2.2.2.2.1 hP c 0 (by rw [jx_w_at hc.1.1, jx_E_chr hc.1.2]) rfl hc.2 hd (k H locs ls hP hS hl)
theorem jx_iaload (pc' : Nat) (hX : jx_K D L X cc own nL ret rm Qc) {c : Nat} {i : Int32} (hc : jx_ix L 6 c i) (hd : decode cc pc = .ok (.iaload, 1)) (hp : pc + 1 = pc') (k : jx_J D L X pc' lv (.int (u.1 c i.toNatClampNeg) :: st) u) : jx_J D L X pc lv (.int i :: .ref (D.2.1 c) :: st) u := by
  subst hp
  exact fun H locs ls hP hS hl => va_iald hX.1 hX.2.1 hX.2.2.2.2.2.2.2.1 hP c 1 (by rw [jx_w_at hc.1.1, jx_E_int hc.1.2]) rfl hc.2 hd (k H locs ls hP hS hl)
theorem jx_aaload (pc' : Nat) (hX : jx_K D L X cc own nL ret rm Qc) {c : Nat} {i : Int32} (hc : jx_ix L 7 c i) (hd : decode cc pc = .ok (.aaload, 1)) (hp : pc + 1 = pc') (k : jx_J D L X pc' lv (.ref (D.2.1 (u.2 c i.toNatClampNeg)) :: st) u) : jx_J D L X pc lv (.int i :: .ref (D.2.1 c) :: st) u := by
  subst hp
  exact fun H locs ls hP hS hl => va_aldq (f := fun i => some (D.2.1 (u.2 c i))) hX.1 hX.2.1 hX.2.2.2.2.2.2.2.1 hP c 2 (by rw [jx_w_at hc.1.1, jx_E_grp hc.1.2]) rfl hc.2 hd (k H locs ls hP hS hl)
theorem jx_castore (pc' : Nat) (hX : jx_K D L X cc own nL ret rm Qc) {c : Nat} {i v : Int32} (hc : jx_ix L 5 c i) (hd : decode cc pc = .ok (.castore, 1)) (hp : pc + 1 = pc') (k : jx_J D L X pc' lv st (jx_sI u c i.toNatClampNeg (vp_nar .char v))) : jx_J D L X pc lv (.int v :: .int i :: .ref (D.2.1 c) :: st) u := by
  subst hp
  intro H locs ls hP hS hl
  refine va_cast hX.1 hX.2.1 hX.2.2.2.2.2.2.2.1 hP (jx_D_of hX.2.2.2.2.2.2.2.2.1) hS c 0 (by rw [jx_w_at hc.1.1, jx_E_chr hc.1.2]) rfl hc.2 hd (fun H1 locs1 hP1 _ hS1 => ?_)
  rw [jx_upd_row, jx_w_set (s2 := jx_sI u c i.toNatClampNeg (vp_nar .char v)) hc.1.1 (jx_E_chr hc.1.2) (fun c' h => jx_E_otherI h)] at hP1
  exact k H1 locs1 ls hP1 hS1 hl
theorem jx_iastore (pc' : Nat) (hX : jx_K D L X cc own nL ret rm Qc) {c : Nat} {i v : Int32} (hc : jx_ix L 6 c i) (hd : decode cc pc = .ok (.iastore, 1)) (hp : pc + 1 = pc') (k : jx_J D L X pc' lv st (jx_sI u c i.toNatClampNeg v)) : jx_J D L X pc lv (.int v :: .int i :: .ref (D.2.1 c) :: st) u := by
  subst hp
  intro H locs ls hP hS hl
  refine va_iast hX.1 hX.2.1 hX.2.2.2.2.2.2.2.1 hP (jx_D_of hX.2.2.2.2.2.2.2.2.1) hS c 1 (by rw [jx_w_at hc.1.1, jx_E_int hc.1.2]) rfl hc.2 hd (fun H1 locs1 hP1 _ hS1 => ?_)
  rw [jx_upd_row, jx_w_set (s2 := jx_sI u c i.toNatClampNeg v) hc.1.1 (jx_E_int hc.1.2) (fun c' h => jx_E_otherI h)] at hP1
  exact k H1 locs1 ls hP1 hS1 hl
theorem jx_alenC (pc' : Nat) (hX : jx_K D L X cc own nL ret rm Qc) {c : Nat} (hc : jx_ok L 5 c) (hd : decode cc pc = .ok (.arraylength, 1)) (hp : pc + 1 = pc') (k : jx_J D L X pc' lv (.int (nI (L.1 c).2) :: st) u) : jx_J D L X pc lv (.ref (D.2.1 c) :: st) u := by
  subst hp
  exact fun H locs ls hP hS hl => va_alen (x := ((L.1 c).2, .inl (u.1 c))) hX.1 hX.2.1 hX.2.2.2.2.2.2.2.1 hP c 0 (by rw [jx_w_at hc.1, jx_E_chr hc.2]) rfl rfl hd (k H locs ls hP hS hl)
theorem jx_alenI (pc' : Nat) (hX : jx_K D L X cc own nL ret rm Qc) {c : Nat} (hc : jx_ok L 6 c) (hd : decode cc pc = .ok (.arraylength, 1)) (hp : pc + 1 = pc') (k : jx_J D L X pc' lv (.int (nI (L.1 c).2) :: st) u) : jx_J D L X pc lv (.ref (D.2.1 c) :: st) u := by
  subst hp
  exact fun H locs ls hP hS hl => va_alen (x := ((L.1 c).2, .inl (u.1 c))) hX.1 hX.2.1 hX.2.2.2.2.2.2.2.1 hP c 1 (by rw [jx_w_at hc.1, jx_E_int hc.2]) rfl rfl hd (k H locs ls hP hS hl)
theorem jx_ldcS (pc' : Nat) (hX : jx_K D L X cc RX2 nL ret rm Qc) (i : Nat) {idx : Nat} (hi : i < 19) (he : jx_six.getD i 0 = idx) (hd : decode cc pc = .ok (.ldc idx, 2)) (hp : pc + 2 = pc') (k : jx_J D L X pc' lv (.ref (D.2.2.2.1 i) :: st) u) : jx_J D L X pc lv st u := by
  subst hp
  subst he
  exact fun H locs ls hP hS hl => va_ldcS hX.1 hX.2.1 hX.2.2.2.1 (hX.2.2.2.2.2.2.2.2.2.1.2.1 i hi) hd (k H locs ls hP hS hl)
theorem jx_Wldcw {p : Program} {l : Launch} {e : Env} {R : Room} {s : State} {m : MethodId} {args : Array Value} {below : List Frame} {meth : Method} {c : Code} {H : Heap} {locs : List Loc} {cells slots : Nat} {Q : State → Prop} {cc : ByteArray} {pc : Nat} {ls : Array Slot} {rest : List Value} (hexec : p.tables.exec = Jvm.exec) (hb : c.code = cc) {own tx : String} {index q : Nat} (hown : s.vm.findClass own = some m.cls) (hZ : vk_R own index tx q s) (hdg : decode cc pc = .ok (.ldc_w index, 3))
    (k : W p l e R s m args below meth c H locs cells slots Q (F0 m (pc + 3) ls (.ref q :: rest))) : W p l e R s m args below meth c H locs cells slots Q (F0 m pc ls rest) := by
  intro T hT X
  obtain ⟨t, a1, b1⟩ := k T hT X
  refine ⟨t, ?_, b1⟩
  obtain ⟨k, cf, i, a', hk, hcf, hcp, -, hr, hev'⟩ := Cond.stringRef_spec hown hZ.1
  cases hZ.2.symm.trans hev'
  obtain ⟨k', hk', he⟩ := X.warmed.alike.2.2 _ _ hk
  have hr' : k'.resolved[index]? = some (some (.string q)) := by
    rcases X.warmed.entry hk hk' index with h | ⟨h, -⟩
    · rw [h]; exact hr
    · rw [hr] at h; cases h
  have hdg' : decode c.code (F0 m pc ls rest).pc = .ok (.ldc_w index, 3) := by rw [hb]; exact hdg
  jvm_step X.here [hexec, hdg', ldc_w.wp_string (e := e) (s := T) (f := F0 m pc ls rest) X.here.top hk' (by rw [he]; exact hcf) hcp hr']
  exact a1
theorem jx_ldcW (pc' : Nat) (hX : jx_K D L X cc RX2 nL ret rm Qc) (i : Nat) {idx : Nat} (hi : i < 19) (he : jx_six.getD i 0 = idx) (hd : decode cc pc = .ok (.ldc_w idx, 3)) (hp : pc + 3 = pc') (k : jx_J D L X pc' lv (.ref (D.2.2.2.1 i) :: st) u) : jx_J D L X pc lv st u := by
  subst hp
  subst he
  exact fun H locs ls hP hS hl => jx_Wldcw hX.1 hX.2.1 hX.2.2.2.1 (hX.2.2.2.2.2.2.2.2.2.1.2.1 i hi) hd (k H locs ls hP hS hl)
theorem jx_topi {e : Int32} (k : ∀ x : Int32, x = e → jx_J D L X pc lv (.int x :: st) u) : jx_J D L X pc lv (.int e :: st) u := k e rfl
theorem jx_topl {e : Int64} (k : ∀ x : Int64, x = e → jx_J D L X pc lv (.long x :: st) u) : jx_J D L X pc lv (.long e :: st) u := k e rfl
theorem jx_topc {e : Nat} (k : ∀ x : Nat, x = e → jx_J D L X pc lv (.ref (D.2.1 x) :: st) u) : jx_J D L X pc lv (.ref (D.2.1 e) :: st) u := k e rfl
theorem jx_namu {e : jx_St} (k : ∀ x : jx_St, x = e → jx_J D L X pc lv st x) : jx_J D L X pc lv st e := k e rfl
theorem jx_endB {H : Heap} {locs : List Loc} {t : State} (hX : jx_K D L X cc own nL ret rm Qc) (hP : va_P D.1 vwCl (jx_w D L u) H) (hS : va_S (jx_A D L) (jx_s X).heap H locs) (ht : t.heap = H) (hW : (jx_s X).WarmedH t.vm) : jx_B D L u t :=
  ⟨by rw [ht]; exact hP, va_K.moved hW.alike hX.2.2.2.2.2.2.2.1, hX.2.2.2.2.2.2.2.2.1, by rw [ht]; exact jx_Sr_kept (jx_Sr_warm hW hX.2.2.2.2.2.2.2.2.2.1) hS.2.1⟩
theorem jx_iret {post : Int32 → jx_St → Prop} {v : Int32} (hX : jx_K D L X cc own nL (some .int) rm (jx_Qi D L post)) (hd : decode cc pc = .ok (.ireturn, 1)) (h : post v u) : jx_J D L X pc lv [.int v] u := by
  intro H locs ls hP hS hl
  show W _ _ _ _ _ _ _ _ _ _ _ _ 0 0 (jx_Q X) _
  rw [hX.2.2.2.2.2.2.2.2.2.2.2.2]
  exact W.iret hX.1 hX.2.1 hX.2.2.2.2.2.2.1 (fun t ht hW => ⟨⟨v, u, rfl, h, jx_endB hX hP hS ht hW⟩, hS.F ht⟩) hS.2.2 hd hX.2.2.2.2.2.1
theorem jx_nb {v : Int32} (h : v = 0 ∨ v = 1) : narrow .boolean (.int v) = .int v := by rcases h with rfl | rfl <;> decide
theorem jx_zret {post : Int32 → jx_St → Prop} {v : Int32} (hX : jx_K D L X cc own nL (some .boolean) rm (jx_Qi D L (fun r u => (r = 0 ∨ r = 1) ∧ post r u))) (hd : decode cc pc = .ok (.ireturn, 1)) (hv : v = 0 ∨ v = 1) (h : post v u) : jx_J D L X pc lv [.int v] u := by
  intro H locs ls hP hS hl
  show W _ _ _ _ _ _ _ _ _ _ _ _ 0 0 (jx_Q X) _
  rw [hX.2.2.2.2.2.2.2.2.2.2.2.2]
  exact W.zret hX.1 hX.2.1 hX.2.2.2.2.2.2.1 (jx_nb hv) (fun t ht hW => ⟨⟨v, u, rfl, ⟨hv, h⟩, jx_endB hX hP hS ht hW⟩, hS.F ht⟩) hS.2.2 hd hX.2.2.2.2.2.1
theorem jx_lret {post : Int64 → jx_St → Prop} {v : Int64} (hX : jx_K D L X cc own nL (some .long) rm (jx_Ql D L post)) (hd : decode cc pc = .ok (.lreturn, 1)) (h : post v u) : jx_J D L X pc lv [.long v] u := by
  intro H locs ls hP hS hl
  show W _ _ _ _ _ _ _ _ _ _ _ _ 0 0 (jx_Q X) _
  rw [hX.2.2.2.2.2.2.2.2.2.2.2.2]
  exact W.lret hX.1 hX.2.1 hX.2.2.2.2.2.2.1 (fun t ht hW => ⟨⟨v, u, rfl, h, jx_endB hX hP hS ht hW⟩, hS.F ht⟩) hS.2.2 hd hX.2.2.2.2.2.1
theorem jx_vret {post : jx_St → Prop} (hX : jx_K D L X cc own nL none rm (jx_Qv D L post)) (hd : decode cc pc = .ok (.return_, 1)) (h : post u) : jx_J D L X pc lv [] u := by
  intro H locs ls hP hS hl
  show W _ _ _ _ _ _ _ _ _ _ _ _ 0 0 (jx_Q X) _
  rw [hX.2.2.2.2.2.2.2.2.2.2.2.2]
  exact W.vret hX.1 hX.2.1 hX.2.2.2.2.2.2.1 (fun t ht hW => ⟨⟨u, rfl, h, jx_endB hX hP hS ht hW⟩, hS.F ht⟩) hS.2.2 hd hX.2.2.2.2.2.1
end JXROWS
end
section
/-! ===== CALLS over a fixed world ===== -/
theorem jx_goodIn {ws : List Cond} {y : MethodName} {c : ByteArray} {n : Nat} {r : Option FieldType} (h : ∀ w ∈ ws, w ∈ jx_tb) (hy : Cond.code y c n r ∈ jx_tb) : GoodIn jx_tb (ws ++ (Cond.code y c n r :: jx_tb)) := by
  have key : ∀ w ∈ (ws ++ (Cond.code y c n r :: jx_tb)), w ∈ jx_tb := by
    intro w hw
    rcases List.mem_append.mp hw with h1 | h1
    · exact h w h1
    · rcases List.mem_cons.mp h1 with rfl | h2
      · exact hy
      · exact h2
  exact fun w hw => ⟨key w hw, good_of_word (jx_tb_good w (key w hw))⟩
/-- the words of a call of an instance method; of a static one -/
def jx_cv (own : String) (idx : Nat) (y : MethodName) (bytes : ByteArray) (maxL : Nat) (ret : Option FieldType) (n : Nat) : Prop :=
  (∀ w ∈ ([.methodLink own idx y, .instanceMethod y, .selects y.cls y y, .initialized y.cls] : List Cond), w ∈ jx_tb) ∧ Cond.code y bytes maxL ret ∈ jx_tb ∧ y.cls ≠ "java/lang/invoke/MethodHandle" ∧ y.cls ≠ "java/lang/invoke/VarHandle" ∧ (parseMethodDescriptor y.desc).map (fun d => d.parameters.length) = some n
def jx_cs (own : String) (idx : Nat) (y : MethodName) (bytes : ByteArray) (maxL : Nat) (ret : Option FieldType) (n : Nat) : Prop :=
  (∀ w ∈ ([.methodLink own idx y, .static y, .initialized y.cls] : List Cond), w ∈ jx_tb) ∧ Cond.code y bytes maxL ret ∈ jx_tb ∧ y.cls ≠ "java/lang/invoke/MethodHandle" ∧ y.cls ≠ "java/lang/invoke/VarHandle" ∧ (parseMethodDescriptor y.desc).map (fun d => d.parameters.length) = some n
/-- the callee's room fits into the caller's -/
def jx_rm (rm rm' : Room) (maxL' : Nat) : Prop := rm'.cells = 0 ∧ rm'.slots = 0 ∧ rm'.frames + 1 ≤ rm.frames ∧ 8 + (maxL' + 11) + rm'.locals ≤ rm.locals
def jx_cn (ci : Nat) (C : String) : Prop := ci ≤ 4 ∧ ∃ (T : u_T) (N : Nat), vwCl[ci]? = some (C, T, N)
section JXCALLS
variable {D : jx_Dt} {L : jx_Ly} {X : jx_X} {cc : ByteArray} {own : String} {nL : Nat} {ret : Option FieldType} {rm : Room} {Qc : Array Value → State → Outcome → State → Prop} {pc : Nat} {lv : List (Nat × Value)} {st : List Value} {u : jx_St}
variable {y : MethodName} {bytes : ByteArray} {maxL' : Nat} {ret' : Option FieldType} {rm' : Room} {idx n ci c : Nat} {As st0 : List Value}
theorem jx_blind {av : List Value} : FrameBlind (va_Pc av (fun U => jx_B D L u U)) := fun _ _ _ _ q => ⟨q.1, jx_B_same rfl rfl q.2⟩
theorem jx_runV {H : Heap} {locs : List Loc} {ls : Array Slot} {Qa : Array Value → State → Outcome → State → Prop} (hX : jx_K D L X cc own nL ret rm Qc) (hP : va_P D.1 vwCl (jx_w D L u) H) (hS : va_S (jx_A D L) (jx_s X).heap H locs) (hl : lv_has ls (jx_nL X) lv)
    (hM : jx_Met X.2.1 y bytes maxL' ret' rm' D L (.ref (D.2.1 c) :: As) u Qa) (hw : jx_cv own idx y bytes maxL' ret' n) (hC : jx_cn ci y.cls) (hc : jx_ok L ci c) (hr : jx_rm rm rm' maxL') (hn : As.length = n) (hst : st0 = As.reverse ++ .ref (D.2.1 c) :: st) (hR : (st.map fun v => v.category).sum ≤ 8) (hd : decode cc pc = .ok (.invokevirtual idx, 3)) :
    va_Run X.1 X.2.1 X.2.2.1 X.2.2.2.1 (jx_s X) (jx_m X) (jx_ar X) (jx_be X) (jx_me X) (jx_co X) H locs 0 0 0 0 (F0 (jx_m X) pc ls st0) st (Qa (Value.ref (D.2.1 c) :: As).toArray) (jx_A D L) := by
  obtain ⟨hw1, hw2, hw3, hw4, hw5⟩ := hw
  obtain ⟨h4, T, N, hT⟩ := hC
  exact va_runV (As := As) (rest := st) ⟨hX.1, hX.2.1, hX.2.2.1, hX.2.2.2.1, hX.2.2.2.2.1⟩ hM (cwV n hX.2.2.2.2.1 (jx_goodIn hw1 hw2) rfl hr.1 hr.2.1 ⟨rfl, hw3, hw4, hw5⟩ (by rw [hX.2.2.2.2.2.2.2.2.2.2.2.1]; exact hr.2.2))
    ⟨jx_blind, va_recv hX.2.2.2.2.2.2.2.1 hP (ci := ci) (q0 := c) hT (by rw [jx_w_at hc.1, jx_E_obj hc.2 h4]), fun U hU hW => ⟨rfl, jx_endB hX hP hS hU hW⟩⟩ rfl hn (hl.1.trans hX.2.2.2.2.2.2.2.2.2.2.1) hst (lv_room hR) hd ⟨Nat.zero_le _, Nat.zero_le _⟩
theorem jx_runS {H : Heap} {locs : List Loc} {ls : Array Slot} {Qa : Array Value → State → Outcome → State → Prop} (hX : jx_K D L X cc own nL ret rm Qc) (hP : va_P D.1 vwCl (jx_w D L u) H) (hS : va_S (jx_A D L) (jx_s X).heap H locs) (hl : lv_has ls (jx_nL X) lv)
    (hM : jx_Met X.2.1 y bytes maxL' ret' rm' D L As u Qa) (hw : jx_cs own idx y bytes maxL' ret' n) (hr : jx_rm rm rm' maxL') (hn : As.length = n) (hst : st0 = As.reverse ++ st) (hR : (st.map fun v => v.category).sum ≤ 8) (hd : decode cc pc = .ok (.invokestatic idx, 3)) :
    va_Run X.1 X.2.1 X.2.2.1 X.2.2.2.1 (jx_s X) (jx_m X) (jx_ar X) (jx_be X) (jx_me X) (jx_co X) H locs 0 0 0 0 (F0 (jx_m X) pc ls st0) st (Qa As.toArray) (jx_A D L) := by
  obtain ⟨hw1, hw2, hw3, hw4, hw5⟩ := hw
  exact va_runS (As := As) (rest := st) ⟨hX.1, hX.2.1, hX.2.2.1, hX.2.2.2.1, hX.2.2.2.2.1⟩ hM (va_cwS n hX.2.2.2.2.1 (jx_goodIn hw1 hw2) rfl hr.1 hr.2.1 ⟨hw3, hw4, hw5⟩ (by rw [hX.2.2.2.2.2.2.2.2.2.2.2.1]; exact hr.2.2))
    ⟨jx_blind, fun U hU hW => ⟨rfl, jx_endB hX hP hS hU hW⟩⟩ rfl hn (hl.1.trans hX.2.2.2.2.2.2.2.2.2.2.1) hst (lv_room hR) hd ⟨Nat.zero_le _, Nat.zero_le _⟩
theorem jx_callVi (pc' : Nat) {post : Int32 → jx_St → Prop} (hX : jx_K D L X cc own nL ret rm Qc) (hM : jx_Met X.2.1 y bytes maxL' ret' rm' D L (.ref (D.2.1 c) :: As) u (jx_Qi D L post)) (hw : jx_cv own idx y bytes maxL' ret' n) (hC : jx_cn ci y.cls) (hc : jx_ok L ci c) (hr : jx_rm rm rm' maxL') (hn : As.length = n) (hst : st0 = As.reverse ++ .ref (D.2.1 c) :: st) (hR : (st.map fun v => v.category).sum ≤ 8) (hd : decode cc pc = .ok (.invokevirtual idx, 3)) (hp : pc + 3 = pc')
    (k : ∀ (r : Int32) (u' : jx_St), post r u' → jx_J D L X pc' lv (.int r :: st) u') : jx_J D L X pc lv st0 u := by
  subst hp
  intro H locs ls hP hS hl
  refine va_calli (jx_runV hX hP hS hl hM hw hC hc hr hn hst hR hd) hS (fun q _ h => h) (fun q h => h) (fun r u' t H1 locs1 ht hvm hpost hB hz hk hS1 => ?_)
  exact k r u' hpost H1 locs1 ls (by rw [← ht]; exact hB.1) hS1 hl
theorem jx_callVl (pc' : Nat) {post : Int64 → jx_St → Prop} (hX : jx_K D L X cc own nL ret rm Qc) (hM : jx_Met X.2.1 y bytes maxL' ret' rm' D L (.ref (D.2.1 c) :: As) u (jx_Ql D L post)) (hw : jx_cv own idx y bytes maxL' ret' n) (hC : jx_cn ci y.cls) (hc : jx_ok L ci c) (hr : jx_rm rm rm' maxL') (hn : As.length = n) (hst : st0 = As.reverse ++ .ref (D.2.1 c) :: st) (hR : (st.map fun v => v.category).sum ≤ 8) (hd : decode cc pc = .ok (.invokevirtual idx, 3)) (hp : pc + 3 = pc')
    (k : ∀ (r : Int64) (u' : jx_St), post r u' → jx_J D L X pc' lv (.long r :: st) u') : jx_J D L X pc lv st0 u := by
  subst hp
  intro H locs ls hP hS hl
  refine va_calll (jx_runV hX hP hS hl hM hw hC hc hr hn hst hR hd) hS (fun q _ h => h) (fun q h => h) (fun r u' t H1 locs1 ht hvm hpost hB hz hk hS1 => ?_)
  exact k r u' hpost H1 locs1 ls (by rw [← ht]; exact hB.1) hS1 hl
theorem jx_callVv (pc' : Nat) {post : jx_St → Prop} (hX : jx_K D L X cc own nL ret rm Qc) (hM : jx_Met X.2.1 y bytes maxL' ret' rm' D L (.ref (D.2.1 c) :: As) u (jx_Qv D L post)) (hw : jx_cv own idx y bytes maxL' ret' n) (hC : jx_cn ci y.cls) (hc : jx_ok L ci c) (hr : jx_rm rm rm' maxL') (hn : As.length = n) (hst : st0 = As.reverse ++ .ref (D.2.1 c) :: st) (hR : (st.map fun v => v.category).sum ≤ 8) (hd : decode cc pc = .ok (.invokevirtual idx, 3)) (hp : pc + 3 = pc')
    (k : ∀ (u' : jx_St), post u' → jx_J D L X pc' lv st u') : jx_J D L X pc lv st0 u := by
  subst hp
  intro H locs ls hP hS hl
  refine va_callv (jx_runV hX hP hS hl hM hw hC hc hr hn hst hR hd) hS (fun q _ h => h) (fun q h => h) (fun u' t H1 locs1 ht hvm hpost hB hz hk hS1 => ?_)
  exact k u' hpost H1 locs1 ls (by rw [← ht]; exact hB.1) hS1 hl
theorem jx_callSi (pc' : Nat) {post : Int32 → jx_St → Prop} (hX : jx_K D L X cc own nL ret rm Qc) (hM : jx_Met X.2.1 y bytes maxL' ret' rm' D L As u (jx_Qi D L post)) (hw : jx_cs own idx y bytes maxL' ret' n) (hr : jx_rm rm rm' maxL') (hn : As.length = n) (hst : st0 = As.reverse ++ st) (hR : (st.map fun v => v.category).sum ≤ 8) (hd : decode cc pc = .ok (.invokestatic idx, 3)) (hp : pc + 3 = pc')
    (k : ∀ (r : Int32) (u' : jx_St), post r u' → jx_J D L X pc' lv (.int r :: st) u') : jx_J D L X pc lv st0 u := by
  subst hp
  intro H locs ls hP hS hl
  refine va_calli (jx_runS hX hP hS hl hM hw hr hn hst hR hd) hS (fun q _ h => h) (fun q h => h) (fun r u' t H1 locs1 ht hvm hpost hB hz hk hS1 => ?_)
  exact k r u' hpost H1 locs1 ls (by rw [← ht]; exact hB.1) hS1 hl
theorem jx_mmax (pc' : Nat) (hX : jx_K D L X cc own nL ret rm Qc) {x z : Int32} (hw : ∀ w ∈ ([.methodLink own idx Lib.Math.max.name, .static Lib.Math.max.name, .initialized "java/lang/Math", .code Lib.Math.max.name Lib.Math.max.code 2 (some .int)] : List Cond), w ∈ jx_tb) (hr : 1 ≤ rm.frames ∧ 21 ≤ rm.locals) (hR : (st.map fun v => v.category).sum ≤ 8) (hd : decode cc pc = .ok (.invokestatic idx, 3)) (hp : pc + 3 = pc') (k : jx_J D L X pc' lv (.int (if x < z then z else x) :: st) u) : jx_J D L X pc lv (.int z :: .int x :: st) u := by
  subst hp
  intro H locs ls hP hS hl
  have hR2 : X.2.2.2.1 = rm := hX.2.2.2.2.2.2.2.2.2.2.2.1
  exact va_mmax hX.1 hX.2.1 (hX.2.2.1.trans (hl.1.trans hX.2.2.2.2.2.2.2.2.2.2.1).symm) hX.2.2.2.1 (hX.2.2.2.2.1 _ (hw _ (by simp))) (hX.2.2.2.2.1 _ (hw _ (by simp))) (hX.2.2.2.2.1 _ (hw _ (by simp))) (hX.2.2.2.2.1 _ (hw _ (by simp))) (by rw [hR2]; exact hr.1) (by rw [hR2]; omega) (Nat.zero_le _) (Nat.zero_le _) hd (k H locs ls hP hS hl)
theorem jx_mmin (pc' : Nat) (hX : jx_K D L X cc own nL ret rm Qc) {x z : Int32} (hw : ∀ w ∈ ([.methodLink own idx Lib.Math.min.name, .static Lib.Math.min.name, .initialized "java/lang/Math", .code Lib.Math.min.name Lib.Math.min.code 2 (some .int)] : List Cond), w ∈ jx_tb) (hr : 1 ≤ rm.frames ∧ 21 ≤ rm.locals) (hR : (st.map fun v => v.category).sum ≤ 8) (hd : decode cc pc = .ok (.invokestatic idx, 3)) (hp : pc + 3 = pc') (k : jx_J D L X pc' lv (.int (if z < x then z else x) :: st) u) : jx_J D L X pc lv (.int z :: .int x :: st) u := by
  subst hp
  intro H locs ls hP hS hl
  have hR2 : X.2.2.2.1 = rm := hX.2.2.2.2.2.2.2.2.2.2.2.1
  exact va_mmin hX.1 hX.2.1 (hX.2.2.1.trans (hl.1.trans hX.2.2.2.2.2.2.2.2.2.2.1).symm) hX.2.2.2.1 (hX.2.2.2.2.1 _ (hw _ (by simp))) (hX.2.2.2.2.1 _ (hw _ (by simp))) (hX.2.2.2.2.1 _ (hw _ (by simp))) (hX.2.2.2.2.1 _ (hw _ (by simp))) (by rw [hR2]; exact hr.1) (by rw [hR2]; omega) (Nat.zero_le _) (Nat.zero_le _) hd (k H locs ls hP hS hl)
end JXCALLS
end
section
/-! ===== THE JDK's OWN METHODS over the literals ===== -/
abbrev jx_r (f lo : Nat) : Room := { frames := f, cells := 0, slots := 0, locals := lo }
/-- char k of literal i -/
def jx_sch (i k : Nat) : Int32 := (((jx_sby.getD i []).getD k 0 &&& 255).toUInt32 % 65536).toInt32
theorem jx_lkd {ps : List (Int × Int)} {d x : Int} (h : ∀ q ∈ ps, q.1 ≠ x) : Op.lookupswitch.offset ps d x = d := by
  induction ps with
  | nil => rfl
  | cons q r ih =>
    obtain ⟨a, o⟩ := q
    rw [Op.lookupswitch.offset_cons, if_neg (h (a, o) List.mem_cons_self)]
    exact ih (fun q hq => h q (List.mem_cons_of_mem _ hq))
theorem jw_J979 : Cond.fieldLink RJ0 9 "java/lang/String" "value" "[B" ∈ jx_tb := jx_mem 979 (by decide +kernel) (by decide +kernel)
theorem jw_J980 : Cond.fieldLink RJ0 15 "java/lang/String" "coder" "B" ∈ jx_tb := jx_mem 980 (by decide +kernel) (by decide +kernel)
theorem jw_J316 : Cond.fieldLink RJ0 38 "java/lang/String" "COMPACT_STRINGS" "Z" ∈ jx_tb := jx_mem 316 (by decide +kernel) (by decide +kernel)
theorem jw_J336 : Cond.fieldLink RJ0 1053 "jdk/internal/util/Preconditions" "SIOOBE_FORMATTER" "Ljava/util/function/BiFunction;" ∈ jx_tb := jx_mem 336 (by decide +kernel) (by decide +kernel)
section JXJDK
variable {D : jx_Dt} {L : jx_Ly} {X : jx_X} {cc : ByteArray} {own : String} {nL : Nat} {ret : Option FieldType} {rm : Room} {Qc : Array Value → State → Outcome → State → Prop} {pc : Nat} {lv : List (Nat × Value)} {st : List Value} {u : jx_St}
theorem jx_gsv (pc' : Nat) (hX : jx_K D L X cc RJ0 nL ret rm Qc) {i : Nat} (hi : i < 19) (hd : decode cc pc = .ok (.getfield 9, 3)) (hp : pc + 3 = pc') (k : jx_J D L X pc' lv (.ref (D.2.2.2.2 i) :: st) u) : jx_J D L X pc lv (.ref (D.2.2.2.1 i) :: st) u := by
  subst hp
  exact fun H locs ls hP hS hl => vk_getf hX.1 hX.2.1 (hX.2.2.2.2.2.2.2.2.2.1.1.1 i hi).2.2.1 hS hX.2.2.2.1 (hX.2.2.2.2.1 _ jw_J979) (fun _ h => h) hd (k H locs ls hP hS hl)
theorem jx_gsc (pc' : Nat) (hX : jx_K D L X cc RJ0 nL ret rm Qc) {i : Nat} (hi : i < 19) (hd : decode cc pc = .ok (.getfield 15, 3)) (hp : pc + 3 = pc') (k : jx_J D L X pc' lv (.int 0 :: st) u) : jx_J D L X pc lv (.ref (D.2.2.2.1 i) :: st) u := by
  subst hp
  exact fun H locs ls hP hS hl => vk_getf hX.1 hX.2.1 (hX.2.2.2.2.2.2.2.2.2.1.1.1 i hi).2.1 hS hX.2.2.2.1 (hX.2.2.2.2.1 _ jw_J980) (fun _ h => h) hd (k H locs ls hP hS hl)
theorem jx_gst (pc' : Nat) (hX : jx_K D L X cc RJ0 nL ret rm Qc) (hd : decode cc pc = .ok (.getstatic 38, 3)) (hp : pc + 3 = pc') (k : jx_J D L X pc' lv (.int 1 :: st) u) : jx_J D L X pc lv st u := by
  subst hp
  exact fun H locs ls hP hS hl => va_gets hX.1 hX.2.1 hX.2.2.2.2.2.2.2.2.2.1.2.2.1 hS hX.2.2.2.1 (hX.2.2.2.2.1 _ jw_J316) (fun _ h => h) hd (k H locs ls hP hS hl)
theorem jx_tlen (pc' : Nat) (hX : jx_K D L X cc own nL ret rm Qc) {i : Nat} (hi : i < 19) (hd : decode cc pc = .ok (.arraylength, 1)) (hp : pc + 1 = pc') (k : jx_J D L X pc' lv (.int (nI (jx_sln.getD i 0)) :: st) u) : jx_J D L X pc lv (.ref (D.2.2.2.2 i) :: st) u := by
  subst hp
  exact fun H locs ls hP hS hl => va_tlen hX.1 hX.2.1 (hX.2.2.2.2.2.2.2.2.2.1.1.1 i hi).2.2.2 hS rfl hd (k H locs ls hP hS hl)
theorem jx_tbl (pc' : Nat) (hX : jx_K D L X cc own nL ret rm Qc) {i : Nat} {x : Int32} (hi : i < 19) (hx : vp_in x (jx_sln.getD i 0)) (hd : decode cc pc = .ok (.baload, 1)) (hp : pc + 1 = pc') (k : jx_J D L X pc' lv (.int ((jx_sby.getD i []).getD x.toNatClampNeg 0) :: st) u) : jx_J D L X pc lv (.int x :: .ref (D.2.2.2.2 i) :: st) u := by
  subst hp
  exact fun H locs ls hP hS hl => va_tb hX.1 hX.2.1 (hX.2.2.2.2.2.2.2.2.2.1.1.1 i hi).2.2.2 hS hx rfl hd (k H locs ls hP hS hl)
theorem jx_xret {ty : FieldType} {post : Int32 → jx_St → Prop} {v : Int32} (hX : jx_K D L X cc own nL (some ty) rm (jx_Qi D L post)) (hn : narrow ty (.int v) = .int v) (hd : decode cc pc = .ok (.ireturn, 1)) (h : post v u) : jx_J D L X pc lv [.int v] u := by
  intro H locs ls hP hS hl
  show W _ _ _ _ _ _ _ _ _ _ _ _ 0 0 (jx_Q X) _
  rw [hX.2.2.2.2.2.2.2.2.2.2.2.2]
  exact W.zret hX.1 hX.2.1 hX.2.2.2.2.2.2.1 hn (fun t ht hW => ⟨⟨v, u, rfl, h, jx_endB hX hP hS ht hW⟩, hS.F ht⟩) hS.2.2 hd hX.2.2.2.2.2.1
variable {y : MethodName} {bytes : ByteArray} {maxL' : Nat} {ret' : Option FieldType} {rm' : Room} {idx n ci c : Nat} {As st0 : List Value}
/-- a call on a literal -/
theorem jx_callTi (pc' : Nat) {i : Nat} {post : Int32 → jx_St → Prop} (hX : jx_K D L X cc own nL ret rm Qc) (hM : jx_Met X.2.1 y bytes maxL' ret' rm' D L (.ref (D.2.2.2.1 i) :: As) u (jx_Qi D L post)) (hw : jx_cv own idx y bytes maxL' ret' n) (hC : y.cls = "java/lang/String") (hi : i < 19) (hr : jx_rm rm rm' maxL') (hn : As.length = n) (hst : st0 = As.reverse ++ .ref (D.2.2.2.1 i) :: st) (hR : (st.map fun v => v.category).sum ≤ 8) (hd : decode cc pc = .ok (.invokevirtual idx, 3)) (hp : pc + 3 = pc')
    (k : ∀ (r : Int32) (u' : jx_St), post r u' → jx_J D L X pc' lv (.int r :: st) u') : jx_J D L X pc lv st0 u := by
  subst hp
  intro H locs ls hP hS hl
  obtain ⟨hw1, hw2, hw3, hw4, hw5⟩ := hw
  have hrun := va_runV (R := X.2.2.2.1) (As := As) (rest := st) (g := F0 (jx_m X) pc ls st0) (cells := 0) (slots := 0) (locs := locs) (e := X.2.2.1) (below := jx_be X) (meth := jx_me X) ⟨hX.1, hX.2.1, hX.2.2.1, hX.2.2.2.1, hX.2.2.2.2.1⟩ hM (cwV n hX.2.2.2.2.1 (jx_goodIn hw1 hw2) rfl hr.1 hr.2.1 ⟨rfl, hw3, hw4, hw5⟩ (by rw [hX.2.2.2.2.2.2.2.2.2.2.2.1]; exact hr.2.2))
    ⟨jx_blind, by rw [hC]; exact vk_recv hX.2.2.2.2.2.2.2.2.2.1.1 hi hS, fun U hU hW => ⟨rfl, jx_endB hX hP hS hU hW⟩⟩ rfl hn (hl.1.trans hX.2.2.2.2.2.2.2.2.2.2.1) hst (lv_room hR) hd ⟨Nat.zero_le _, Nat.zero_le _⟩
  refine va_calli hrun hS (fun q _ h => h) (fun q h => h) (fun r u' t H1 locs1 ht hvm hpost hB hz hk hS1 => ?_)
  exact k r u' hpost H1 locs1 ls (by rw [← ht]; exact hB.1) hS1 hl
theorem jx_callSv (pc' : Nat) {post : jx_St → Prop} (hX : jx_K D L X cc own nL ret rm Qc) (hM : jx_Met X.2.1 y bytes maxL' ret' rm' D L As u (jx_Qv D L post)) (hw : jx_cs own idx y bytes maxL' ret' n) (hr : jx_rm rm rm' maxL') (hn : As.length = n) (hst : st0 = As.reverse ++ st) (hR : (st.map fun v => v.category).sum ≤ 8) (hd : decode cc pc = .ok (.invokestatic idx, 3)) (hp : pc + 3 = pc')
    (k : ∀ (u' : jx_St), post u' → jx_J D L X pc' lv st u') : jx_J D L X pc lv st0 u := by
  subst hp
  intro H locs ls hP hS hl
  refine va_callv (jx_runS hX hP hS hl hM hw hr hn hst hR hd) hS (fun q _ h => h) (fun q h => h) (fun u' t H1 locs1 ht hvm hpost hB hz hk hS1 => ?_)
  exact k u' hpost H1 locs1 ls (by rw [← ht]; exact hB.1) hS1 hl
end JXJDK
theorem jv_J0_335 : jx_cv RJ0 335 yJ0_coder_7d493 cJ0_coder_7d493 1 (some .byte) 0 := ⟨List.forall_mem_cons.mpr ⟨jx_mem 312 (by decide +kernel) (by decide +kernel), List.forall_mem_cons.mpr ⟨jx_mem 313 (by decide +kernel) (by decide +kernel), List.forall_mem_cons.mpr ⟨jx_mem 314 (by decide +kernel) (by decide +kernel), List.forall_mem_cons.mpr ⟨jx_mem 71 (by decide +kernel) (by decide +kernel), fun _ h => absurd h List.not_mem_nil⟩⟩⟩⟩, jx_mem 315 (by decide +kernel) (by decide +kernel), by decide, by decide, by decide +kernel⟩
theorem jv_J0_492 : jx_cv RJ0 492 yJ0_isLatin1_aae02 cJ0_isLatin1_aae02 1 (some .boolean) 0 := ⟨List.forall_mem_cons.mpr ⟨jx_mem 326 (by decide +kernel) (by decide +kernel), List.forall_mem_cons.mpr ⟨jx_mem 327 (by decide +kernel) (by decide +kernel), List.forall_mem_cons.mpr ⟨jx_mem 328 (by decide +kernel) (by decide +kernel), List.forall_mem_cons.mpr ⟨jx_mem 71 (by decide +kernel) (by decide +kernel), fun _ h => absurd h List.not_mem_nil⟩⟩⟩⟩, jx_mem 329 (by decide +kernel) (by decide +kernel), by decide, by decide, by decide +kernel⟩
theorem js_J0_495 : jx_cs RJ0 495 yJ1_charAt_3b067 cJ1_charAt_3b067 2 (some .char) 2 := ⟨List.forall_mem_cons.mpr ⟨jx_mem 330 (by decide +kernel) (by decide +kernel), List.forall_mem_cons.mpr ⟨jx_mem 331 (by decide +kernel) (by decide +kernel), List.forall_mem_cons.mpr ⟨jx_mem 72 (by decide +kernel) (by decide +kernel), fun _ h => absurd h List.not_mem_nil⟩⟩⟩, jx_mem 332 (by decide +kernel) (by decide +kernel), by decide, by decide, by decide +kernel⟩
theorem js_J1_9 : jx_cs RJ1 9 yJ0_checkIndex_df160 cJ0_checkIndex_df160 2 none 2 := ⟨List.forall_mem_cons.mpr ⟨jx_mem 333 (by decide +kernel) (by decide +kernel), List.forall_mem_cons.mpr ⟨jx_mem 334 (by decide +kernel) (by decide +kernel), List.forall_mem_cons.mpr ⟨jx_mem 71 (by decide +kernel) (by decide +kernel), fun _ h => absurd h List.not_mem_nil⟩⟩⟩, jx_mem 335 (by decide +kernel) (by decide +kernel), by decide, by decide, by decide +kernel⟩
theorem js_J0_1059 : jx_cs RJ0 1059 yJ3_checkIndex_8e157 cJ3_checkIndex_8e157 3 (some .int) 3 := ⟨List.forall_mem_cons.mpr ⟨jx_mem 338 (by decide +kernel) (by decide +kernel), List.forall_mem_cons.mpr ⟨jx_mem 339 (by decide +kernel) (by decide +kernel), List.forall_mem_cons.mpr ⟨jx_mem 73 (by decide +kernel) (by decide +kernel), fun _ h => absurd h List.not_mem_nil⟩⟩⟩, jx_mem 340 (by decide +kernel) (by decide +kernel), by decide, by decide, by decide +kernel⟩
set_option maxRecDepth 100000 in
theorem mJ_coder (l : Launch) (D : jx_Dt) (L : jx_Ly) (i : Nat) (hi : i < 19) (u : jx_St) : jx_Met l yJ0_coder_7d493 cJ0_coder_7d493 1 (some .byte) (jx_r 0 0) D L [.ref (D.2.2.2.1 i)] u (jx_Qi D L (fun r u' => r = 0 ∧ u' = u)) := by
  refine jx_ofJ (by decide) (Nat.le_of_ble_eq_true rfl) (fun X hl hX => ?_)
  subst hl
  replace hX : jx_K D L X cJ0_coder_7d493 RJ0 1 (some .byte) (jx_r 0 0) (jx_Qi D L (fun r u' => r = 0 ∧ u' = u)) := hX
  show jx_J D L X 0 [(0, .ref (D.2.2.2.1 i))] [] u
  refine jx_gst 3 hX dJ0_coder_7d493_0 rfl ?_
  refine jx_if_eq 6 13 hX dJ0_coder_7d493_3 rfl (by decide) (fun h => absurd h (by decide)) (fun _ => ?_)
  refine jx_aload_n 7 hX 0 rfl rfl dJ0_coder_7d493_6 rfl (jx_gsc 10 hX hi dJ0_coder_7d493_7 rfl (jx_goto 14 hX dJ0_coder_7d493_10 (by decide) ?_))
  exact jx_xret hX (by decide) dJ0_coder_7d493_14 ⟨rfl, rfl⟩
set_option maxRecDepth 100000 in
theorem mJ_latin (l : Launch) (D : jx_Dt) (L : jx_Ly) (i : Nat) (hi : i < 19) (u : jx_St) : jx_Met l yJ0_isLatin1_aae02 cJ0_isLatin1_aae02 1 (some .boolean) (jx_r 0 0) D L [.ref (D.2.2.2.1 i)] u (jx_Qi D L (fun r u' => r = 1 ∧ u' = u)) := by
  refine jx_ofJ (by decide) (Nat.le_of_ble_eq_true rfl) (fun X hl hX => ?_)
  subst hl
  replace hX : jx_K D L X cJ0_isLatin1_aae02 RJ0 1 (some .boolean) (jx_r 0 0) (jx_Qi D L (fun r u' => r = 1 ∧ u' = u)) := hX
  show jx_J D L X 0 [(0, .ref (D.2.2.2.1 i))] [] u
  refine jx_gst 3 hX dJ0_isLatin1_aae02_0 rfl ?_
  refine jx_if_eq 6 17 hX dJ0_isLatin1_aae02_3 rfl (by decide) (fun h => absurd h (by decide)) (fun _ => ?_)
  refine jx_aload_n 7 hX 0 rfl rfl dJ0_isLatin1_aae02_6 rfl (jx_gsc 10 hX hi dJ0_isLatin1_aae02_7 rfl ?_)
  refine jx_if_ne 13 17 hX dJ0_isLatin1_aae02_10 rfl (by decide) (fun h => absurd rfl h) (fun _ => ?_)
  refine jx_iconst 14 hX 1 (by decide) dJ0_isLatin1_aae02_13 rfl (jx_goto 18 hX dJ0_isLatin1_aae02_14 (by decide) ?_)
  exact jx_xret hX (by decide) dJ0_isLatin1_aae02_18 ⟨rfl, rfl⟩
set_option maxRecDepth 100000 in
theorem jx_slnB : ∀ i, i < 19 → jx_sln.getD i 0 < 100 := by decide
set_option maxRecDepth 100000 in
theorem mJ_len (l : Launch) (D : jx_Dt) (L : jx_Ly) (i : Nat) (hi : i < 19) (u : jx_St) : jx_Met l yJ0_length_8abf5 cJ0_length_8abf5 1 (some .int) (jx_r 1 20) D L [.ref (D.2.2.2.1 i)] u (jx_Qi D L (fun r u' => r = nI (jx_sln.getD i 0) ∧ u' = u)) := by
  refine jx_ofJ (by decide) (Nat.le_of_ble_eq_true rfl) (fun X hl hX => ?_)
  subst hl
  replace hX : jx_K D L X cJ0_length_8abf5 RJ0 1 (some .int) (jx_r 1 20) (jx_Qi D L (fun r u' => r = nI (jx_sln.getD i 0) ∧ u' = u)) := hX
  show jx_J D L X 0 [(0, .ref (D.2.2.2.1 i))] [] u
  refine jx_aload_n 1 hX 0 rfl rfl dJ0_length_8abf5_0 rfl (jx_gsv 4 hX hi dJ0_length_8abf5_1 rfl (jx_tlen 5 hX hi dJ0_length_8abf5_4 rfl (jx_aload_n 6 hX 0 rfl rfl dJ0_length_8abf5_5 rfl ?_)))
  refine jx_callTi 9 hX (mJ_coder _ D L i hi u) jv_J0_335 rfl hi ⟨rfl, rfl, by decide, by decide⟩ rfl rfl (Nat.le_of_ble_eq_true rfl) dJ0_length_8abf5_6 rfl (fun r u' h => ?_)
  obtain ⟨rfl, rfl⟩ := h
  refine jx_ishr 10 hX dJ0_length_8abf5_9 rfl ?_
  exact jx_iret hX dJ0_length_8abf5_10 ⟨sc_shr0 (by have := jx_slnB i hi; omega), rfl⟩
set_option maxRecDepth 100000 in
theorem mJ_pre (l : Launch) (D : jx_Dt) (L : jx_Ly) (x z : Int32) (w : Value) (hw : w = .null ∨ ∃ t, w = .ref t) (h0 : ¬ x < 0) (h1 : x < z) (u : jx_St) : jx_Met l yJ3_checkIndex_8e157 cJ3_checkIndex_8e157 3 (some .int) (jx_r 0 0) D L [.int x, .int z, w] u (jx_Qi D L (fun r u' => u' = u)) := by
  rcases hw with rfl | ⟨t, rfl⟩
  · refine jx_ofJ (by decide) (Nat.le_of_ble_eq_true rfl) (fun X hl hX => ?_)
    subst hl
    replace hX : jx_K D L X cJ3_checkIndex_8e157 RJ3 3 (some .int) (jx_r 0 0) (jx_Qi D L (fun r u' => u' = u)) := hX
    show jx_J D L X 0 [(0, .int x), (1, .int z), (2, .null)] [] u
    refine jx_iload_n 1 hX 0 rfl rfl dJ3_checkIndex_8e157_0 rfl (jx_if_lt 4 9 hX dJ3_checkIndex_8e157_1 rfl (by decide) (fun h => absurd h h0) (fun _ => ?_))
    refine jx_iload_n 5 hX 0 rfl rfl dJ3_checkIndex_8e157_4 rfl (jx_iload_n 6 hX 1 rfl rfl dJ3_checkIndex_8e157_5 rfl (jx_icmp_lt 9 16 hX dJ3_checkIndex_8e157_6 rfl (by decide) (fun _ => ?_) (fun h => absurd h1 h)))
    exact jx_iload_n 17 hX 0 rfl rfl dJ3_checkIndex_8e157_16 rfl (jx_iret hX dJ3_checkIndex_8e157_17 rfl)
  · refine jx_ofJ (by decide) (Nat.le_of_ble_eq_true rfl) (fun X hl hX => ?_)
    subst hl
    replace hX : jx_K D L X cJ3_checkIndex_8e157 RJ3 3 (some .int) (jx_r 0 0) (jx_Qi D L (fun r u' => u' = u)) := hX
    show jx_J D L X 0 [(0, .int x), (1, .int z), (2, .ref t)] [] u
    refine jx_iload_n 1 hX 0 rfl rfl dJ3_checkIndex_8e157_0 rfl (jx_if_lt 4 9 hX dJ3_checkIndex_8e157_1 rfl (by decide) (fun h => absurd h h0) (fun _ => ?_))
    refine jx_iload_n 5 hX 0 rfl rfl dJ3_checkIndex_8e157_4 rfl (jx_iload_n 6 hX 1 rfl rfl dJ3_checkIndex_8e157_5 rfl (jx_icmp_lt 9 16 hX dJ3_checkIndex_8e157_6 rfl (by decide) (fun _ => ?_) (fun h => absurd h1 h)))
    exact jx_iload_n 17 hX 0 rfl rfl dJ3_checkIndex_8e157_16 rfl (jx_iret hX dJ3_checkIndex_8e157_17 rfl)
set_option maxRecDepth 100000 in
theorem mJ_ck (l : Launch) (D : jx_Dt) (L : jx_Ly) (x z : Int32) (h0 : ¬ x < 0) (h1 : x < z) (u : jx_St) : jx_Met l yJ0_checkIndex_df160 cJ0_checkIndex_df160 2 none (jx_r 1 22) D L [.int x, .int z] u (jx_Qv D L (fun u' => u' = u)) := by
  refine jx_ofJ (by decide) (Nat.le_of_ble_eq_true rfl) (fun X hl hX => ?_)
  subst hl
  replace hX : jx_K D L X cJ0_checkIndex_df160 RJ0 2 none (jx_r 1 22) (jx_Qv D L (fun u' => u' = u)) := hX
  show jx_J D L X 0 [(0, .int x), (1, .int z)] [] u
  refine jx_iload_n 1 hX 0 rfl rfl dJ0_checkIndex_df160_0 rfl (jx_iload_n 2 hX 1 rfl rfl dJ0_checkIndex_df160_1 rfl ?_)
  have key : ∀ w : Value, (w = .null ∨ ∃ t, w = .ref t) → jx_J D L X 5 [(0, .int x), (1, .int z)] [w, .int z, .int x] u := by
    intro w hw
    refine jx_callSi 8 hX (mJ_pre _ D L x z w hw h0 h1 u) js_J0_1059 ⟨rfl, rfl, by decide, by decide⟩ rfl rfl (Nat.le_of_ble_eq_true rfl) dJ0_checkIndex_df160_5 rfl (fun r u' h => ?_)
    subst h
    exact jx_pop 9 hX rfl dJ0_checkIndex_df160_8 rfl (jx_vret hX dJ0_checkIndex_df160_9 rfl)
  rcases hX.2.2.2.2.2.2.2.2.2.1.2.2.2 with hz | ⟨t, hz⟩
  · exact fun H locs ls hP hS hl => va_gets hX.1 hX.2.1 hz hS hX.2.2.2.1 (hX.2.2.2.2.1 _ jw_J336) (fun _ h => h) dJ0_checkIndex_df160_2 (key .null (Or.inl rfl) H locs ls hP hS hl)
  · exact fun H locs ls hP hS hl => va_gets hX.1 hX.2.1 hz hS hX.2.2.2.1 (hX.2.2.2.2.1 _ jw_J336) (fun _ h => h) dJ0_checkIndex_df160_2 (key (.ref t) (Or.inr ⟨t, rfl⟩) H locs ls hP hS hl)
theorem jx_vin {x : Int32} {n : Nat} (hn : n < 2 ^ 31) (h : vp_in x n) : ¬ x < 0 ∧ x < nI n := by
  obtain ⟨j, hj, rfl⟩ := vp_in_of h hn
  exact ⟨nI_pos (by omega), nI_lt hj hn⟩
set_option maxRecDepth 100000 in
theorem mJ_l1 (l : Launch) (D : jx_Dt) (L : jx_Ly) (i : Nat) (x : Int32) (hi : i < 19) (hx : vp_in x (jx_sln.getD i 0)) (u : jx_St) : jx_Met l yJ1_charAt_3b067 cJ1_charAt_3b067 2 (some .char) (jx_r 2 43) D L [.ref (D.2.2.2.2 i), .int x] u (jx_Qi D L (fun r u' => r = jx_sch i x.toNatClampNeg ∧ u' = u)) := by
  refine jx_ofJ (by decide) (Nat.le_of_ble_eq_true rfl) (fun X hl hX => ?_)
  subst hl
  replace hX : jx_K D L X cJ1_charAt_3b067 RJ1 2 (some .char) (jx_r 2 43) (jx_Qi D L (fun r u' => r = jx_sch i x.toNatClampNeg ∧ u' = u)) := hX
  show jx_J D L X 0 [(0, .ref (D.2.2.2.2 i)), (1, .int x)] [] u
  obtain ⟨h0, h1⟩ := jx_vin (by have := jx_slnB i hi; omega) hx
  refine jx_iload_n 1 hX 1 rfl rfl dJ1_charAt_3b067_0 rfl (jx_aload_n 2 hX 0 rfl rfl dJ1_charAt_3b067_1 rfl (jx_tlen 3 hX hi dJ1_charAt_3b067_2 rfl ?_))
  refine jx_callSv 6 hX (mJ_ck _ D L x _ h0 h1 u) js_J1_9 ⟨rfl, rfl, by decide, by decide⟩ rfl rfl (Nat.le_of_ble_eq_true rfl) dJ1_charAt_3b067_3 rfl (fun u' h => ?_)
  subst h
  refine jx_aload_n 7 hX 0 rfl rfl dJ1_charAt_3b067_6 rfl (jx_iload_n 8 hX 1 rfl rfl dJ1_charAt_3b067_7 rfl (jx_tbl 9 hX hi hx dJ1_charAt_3b067_8 rfl (jx_sipush 12 hX 255 (by decide) dJ1_charAt_3b067_9 rfl (jx_iand 13 hX dJ1_charAt_3b067_12 rfl (jx_i2c 14 hX dJ1_charAt_3b067_13 rfl ?_)))))
  exact jx_xret hX (pk_nc _) dJ1_charAt_3b067_14 ⟨rfl, rfl⟩
set_option maxRecDepth 100000 in
theorem mJ_chr (l : Launch) (D : jx_Dt) (L : jx_Ly) (i : Nat) (x : Int32) (hi : i < 19) (hx : vp_in x (jx_sln.getD i 0)) (u : jx_St) : jx_Met l yJ0_charAt_5068e cJ0_charAt_5068e 2 (some .char) (jx_r 4 120) D L [.ref (D.2.2.2.1 i), .int x] u (jx_Qi D L (fun r u' => r = jx_sch i x.toNatClampNeg ∧ u' = u)) := by
  refine jx_ofJ (by decide) (Nat.le_of_ble_eq_true rfl) (fun X hl hX => ?_)
  subst hl
  replace hX : jx_K D L X cJ0_charAt_5068e RJ0 2 (some .char) (jx_r 4 120) (jx_Qi D L (fun r u' => r = jx_sch i x.toNatClampNeg ∧ u' = u)) := hX
  show jx_J D L X 0 [(0, .ref (D.2.2.2.1 i)), (1, .int x)] [] u
  refine jx_aload_n 1 hX 0 rfl rfl dJ0_charAt_5068e_0 rfl ?_
  refine jx_callTi 4 hX (mJ_latin _ D L i hi u) jv_J0_492 rfl hi ⟨rfl, rfl, by decide, by decide⟩ rfl rfl (Nat.le_of_ble_eq_true rfl) dJ0_charAt_5068e_1 rfl (fun r u' h => ?_)
  obtain ⟨rfl, rfl⟩ := h
  refine jx_if_eq 7 16 hX dJ0_charAt_5068e_4 rfl (by decide) (fun h => absurd h (by decide)) (fun _ => ?_)
  refine jx_aload_n 8 hX 0 rfl rfl dJ0_charAt_5068e_7 rfl (jx_gsv 11 hX hi dJ0_charAt_5068e_8 rfl (jx_iload_n 12 hX 1 rfl rfl dJ0_charAt_5068e_11 rfl ?_))
  refine jx_callSi 15 hX (mJ_l1 _ D L i x hi hx u') js_J0_495 ⟨rfl, rfl, by decide, by decide⟩ rfl rfl (Nat.le_of_ble_eq_true rfl) dJ0_charAt_5068e_12 rfl (fun r u2 h => ?_)
  obtain ⟨rfl, rfl⟩ := h
  exact jx_xret hX (pk_nc _) dJ0_charAt_5068e_15 ⟨rfl, rfl⟩
section JXSTR
variable {D : jx_Dt} {L : jx_Ly} {X : jx_X} {cc : ByteArray} {own : String} {nL : Nat} {ret : Option FieldType} {rm : Room} {Qc : Array Value → State → Outcome → State → Prop} {pc : Nat} {lv : List (Nat × Value)} {st : List Value} {u : jx_St} {idx : Nat}
theorem jx_slen (pc' : Nat) (hX : jx_K D L X cc own nL ret rm Qc) {i : Nat} (hi : i < 19) (hw : jx_cv own idx yJ0_length_8abf5 cJ0_length_8abf5 1 (some .int) 0) (hr : 2 ≤ rm.frames ∧ 40 ≤ rm.locals) (hR : (st.map fun v => v.category).sum ≤ 8) (hd : decode cc pc = .ok (.invokevirtual idx, 3)) (hp : pc + 3 = pc') (k : jx_J D L X pc' lv (.int (nI (jx_sln.getD i 0)) :: st) u) : jx_J D L X pc lv (.ref (D.2.2.2.1 i) :: st) u :=
  jx_callTi pc' (As := []) hX (mJ_len _ D L i hi u) hw rfl hi ⟨rfl, rfl, hr.1, hr.2⟩ rfl rfl hR hd hp (fun r u' h => by obtain ⟨rfl, rfl⟩ := h; exact k)
theorem jx_scat (pc' : Nat) (hX : jx_K D L X cc own nL ret rm Qc) {i : Nat} {x : Int32} (hi : i < 19) (hx : vp_in x (jx_sln.getD i 0)) (hw : jx_cv own idx yJ0_charAt_5068e cJ0_charAt_5068e 2 (some .char) 1) (hr : 5 ≤ rm.frames ∧ 141 ≤ rm.locals) (hR : (st.map fun v => v.category).sum ≤ 8) (hd : decode cc pc = .ok (.invokevirtual idx, 3)) (hp : pc + 3 = pc') (k : jx_J D L X pc' lv (.int (jx_sch i x.toNatClampNeg) :: st) u) : jx_J D L X pc lv (.int x :: .ref (D.2.2.2.1 i) :: st) u :=
  jx_callTi pc' (As := [.int x]) hX (mJ_chr _ D L i x hi hx u) hw rfl hi ⟨rfl, rfl, hr.1, hr.2⟩ rfl rfl hR hd hp (fun r u' h => by obtain ⟨rfl, rfl⟩ := h; exact k)
end JXSTR
end
