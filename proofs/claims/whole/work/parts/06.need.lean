/-! what words of the tables a row needs, and what else must hold of it -/
def am_cm (a : Nat) : Cond := .code (am_kd a).1 (am_kd a).2.1 (am_kd a).2.2.1 (am_kd a).2.2.2.1
def am_T (a b : Nat) : String × String × String × Bool := (am_cn a).2.1 b
def am_ccn (ci : Nat) : String := if ci = 100 then "java/lang/String" else (am_cn ci).1
def am_need (own : String) (r : am_Row) : List Cond := match r with
  | (_, _, i, a, b, c) => match i with
    | .getfield k => if a = 100 then [if b = 0 then .fieldLink own k "java/lang/String" "value" "[B" else .fieldLink own k "java/lang/String" "coder" "B"] else [.fieldLink own k (am_T a b).1 (am_T a b).2.1 (am_T a b).2.2.1]
    | .putfield k => [.fieldLink own k (am_T a b).1 (am_T a b).2.1 (am_T a b).2.2.1]
    | .getstatic k => if a = 0 then [.fieldLink own k "java/lang/String" "COMPACT_STRINGS" "Z"] else [.fieldLink own k "jdk/internal/util/Preconditions" "SIOOBE_FORMATTER" "Ljava/util/function/BiFunction;"]
    | .ldc k => if a = 0 then [.constant own k (Int32.ofInt c)] else []
    | .ldc_w k => if a = 0 then [.constant own k (Int32.ofInt c)] else []
    | .ldc2_w k => [.constantLong own k (Int64.ofInt c)]
    | .invokestatic k => if b = 0 then [.methodLink own k (am_kd a).1, .static (am_kd a).1, .initialized (am_kd a).1.cls, am_cm a] else if b = 3 then [.methodLinkNest own k (am_kd a).1 "NextFair", .static (am_kd a).1, .initialized (am_kd a).1.cls, am_cm a] else if b = 8 then [.methodLink own k arraycopyName, .native arraycopyName, .static arraycopyName, .initialized "java/lang/System"] else []
    | .invokevirtual k => if b = 1 then [.methodLink own k (am_kd a).1, .instanceMethod (am_kd a).1, .selects (am_kd a).1.cls (am_kd a).1 (am_kd a).1, .initialized (am_kd a).1.cls, am_cm a] else if b = 4 then [.methodLinkNest own k (am_kd a).1 "NextFair", .instanceMethod (am_kd a).1, .selects (am_kd a).1.cls (am_kd a).1 (am_kd a).1, .initialized (am_kd a).1.cls, am_cm a] else []
    | .invokespecial k => if b = 2 then [.methodLink own k (am_kd a).1, .instanceMethod (am_kd a).1, .initialized (am_kd a).1.cls, am_cm a] else if b = 5 then [.methodLinkNest own k (am_kd a).1 "NextFair", .instanceMethod (am_kd a).1, .initialized (am_kd a).1.cls, am_cm a] else if b = 9 then [.methodLink own k objectInit, .instanceMethod objectInit, .code objectInit ⟨#[0xb1]⟩ 1 none] else []
    | .new k => if a < 13 then [.classLink own k (am_cn a).1, .instantiable (am_cn a).1 (am_cn a).2.2.1, .initialized (am_cn a).1] else []
    | .newarray t => [.arrayClass (newarray.typeOf t)]
    | .anewarray k => [.classLink own k (am_cn (am_oty a)).1, .arrayOver (.object (am_cn (am_oty a)).1)]
    | _ => []
def am_aty (t : Nat) : FieldType := if t = 0 then .int else if t = 1 then .byte else if t = 2 then .long else .boolean
def am_ln (i : Instr) (len : Nat) : Nat := match i with
  | .bipush _ => 2
  | .sipush _ => 3
  | .ldc _ => 2
  | .ldc_w _ => 3
  | .ldc2_w _ => 3
  | .iload _ => 2
  | .lload _ => 2
  | .aload _ => 2
  | .istore _ => 2
  | .lstore _ => 2
  | .astore _ => 2
  | .iinc _ _ => 3
  | .ifCond _ _ => 3
  | .if_icmp _ _ => 3
  | .goto _ => 3
  | .ifnull _ => 3
  | .ifnonnull _ => 3
  | .tableswitch _ _ _ _ => len
  | .lookupswitch _ _ => len
  | .getfield _ => 3
  | .putfield _ => 3
  | .getstatic _ => 3
  | .invokestatic _ => 3
  | .invokevirtual _ => 3
  | .invokespecial _ => 3
  | .new _ => 3
  | .newarray _ => 2
  | .anewarray _ => 3
  | _ => 1
def am_goodM (a : Nat) (c : Int) : Bool := decide (a < 308) && decide ((am_kd a).1.cls ≠ "java/lang/invoke/MethodHandle") && decide ((am_kd a).1.cls ≠ "java/lang/invoke/VarHandle") && decide ((parseMethodDescriptor (am_kd a).1.desc).map (fun d => d.parameters.length) = some (c.toNat % 1000))
def am_side (x : MethodName) (r : am_Row) : Bool := match r with
  | (_, len, i, a, b, c) => decide (len = am_ln i len) && (match i with
    | .getfield _ => decide (a = 100) || (decide (a < 13) && decide (b < (am_cn a).2.2.1))
    | .putfield _ => decide (a < 13) && decide (b < (am_cn a).2.2.1) && ((decide (c = 0) && decide ((am_T a b).2.2.2 = false)) || (decide (c = 1) && decide ((am_T a b).2.2.2 = true) && decide (x.name = "<init>") && decide ((am_T a b).1 = x.cls)))
    | .invokestatic _ => if b = 0 ∨ b = 3 then am_goodM a c else true
    | .invokevirtual _ => if b = 1 ∨ b = 4 then am_goodM a c && decide ((am_kd a).1.cls = am_ccn (c.toNat / 1000)) && decide (c.toNat / 1000 < 13 ∨ c.toNat / 1000 = 100) else true
    | .invokespecial _ => if b = 2 ∨ b = 5 then am_goodM a c && decide ((am_kd a).1.name = "<init>") && decide ((am_kd a).2.2.2.1 = none) else true
    | .newarray t => decide (a < 4) && decide (newarray.typeOf t = am_aty a)
    | .ldc k => if a = 1 then decide ((x.cls, k, b) ∈ [("NextFair$Reader", 118, 0), ("NextFair$Reader", 130, 1), ("NextFairModel", 86, 2), ("NextFairModel", 124, 3)]) else true
    | _ => true)
def am_wk (x : MethodName) (h : List Nat) (t : List am_Row) : Bool := decide ((t.flatMap (am_need x.cls)).map some = h.map (fun i => lw_tbl[i]?)) && t.all (am_side x)
theorem am_wk_spec {x : MethodName} {h : List Nat} {t : List am_Row} (hw : am_wk x h t = true) : ∀ r ∈ t, (∀ w ∈ am_need x.cls r, w ∈ lw_tbl) ∧ am_side x r = true := by
  intro r hr
  unfold am_wk at hw
  simp only [Bool.and_eq_true, decide_eq_true_eq] at hw
  refine ⟨fun w hw1 => ?_, List.all_eq_true.mp hw.2 r hr⟩
  have h1 : some w ∈ (t.flatMap (am_need x.cls)).map some := List.mem_map.mpr ⟨w, List.mem_flatMap.mpr ⟨r, hr, hw1⟩, rfl⟩
  rw [hw.1] at h1
  obtain ⟨i, -, hi⟩ := List.mem_map.mp h1
  exact List.mem_of_getElem? hi
theorem am_wk_app {P : am_Row → Prop} {a b : List am_Row} (ha : ∀ r ∈ a, P r) (hb : ∀ r ∈ b, P r) : ∀ r ∈ a ++ b, P r := fun r h => (List.mem_append.mp h).elim (ha r) (hb r)
def am_WS (x : MethodName) (t : List am_Row) : Prop := ∀ r ∈ t, (∀ w ∈ am_need x.cls r, w ∈ lw_tbl) ∧ am_side x r = true
def am_prs : List (am_Meth × List am_Row) := [(am_m0, am_t0), (am_m1, am_t1), (am_m2, am_t2), (am_m3, am_t3), (am_m4, am_t4), (am_m5, am_t5), (am_m6, am_t6), (am_m7, am_t7), (am_m8, am_t8), (am_m9, am_t9), (am_m10, am_t10), (am_m11, am_t11), (am_m12, am_t12), (am_m13, am_t13), (am_m14, am_t14), (am_m15, am_t15), (am_m16, am_t16), (am_m17, am_t17), (am_m18, am_t18), (am_m19, am_t19), (am_m20, am_t20), (am_m21, am_t21), (am_m22, am_t22), (am_m23, am_t23), (am_m24, am_t24), (am_m25, am_t25), (am_m26, am_t26), (am_m27, am_t27), (am_m28, am_t28), (am_m29, am_t29), (am_m30, am_t30), (am_m31, am_t31), (am_m32, am_t32), (am_m33, am_t33), (am_m34, am_t34), (am_m35, am_t35), (am_m36, am_t36), (am_m37, am_t37), (am_m38, am_t38), (am_m39, am_t39), (am_m40, am_t40), (am_m41, am_t41), (am_m42, am_t42), (am_m43, am_t43), (am_m44, am_t44), (am_m45, am_t45), (am_m46, am_t46), (am_m47, am_t47), (am_m48, am_t48), (am_m49, am_t49), (am_m50, am_t50), (am_m51, am_t51), (am_m52, am_t52), (am_m53, am_t53), (am_m54, am_t54), (am_m55, am_t55), (am_m56, am_t56), (am_m57, am_t57), (am_m58, am_t58), (am_m59, am_t59), (am_m60, am_t60), (am_m61, am_t61), (am_m62, am_t62), (am_m63, am_t63), (am_m64, am_t64), (am_m65, am_t65), (am_m66, am_t66), (am_m67, am_t67), (am_m68, am_t68), (am_m69, am_t69), (am_m70, am_t70), (am_m71, am_t71), (am_m72, am_t72), (am_m73, am_t73), (am_m74, am_t74), (am_m75, am_t75), (am_m76, am_t76), (am_m77, am_t77), (am_m78, am_t78), (am_m79, am_t79), (am_m80, am_t80), (am_m81, am_t81), (am_m82, am_t82), (am_m83, am_t83), (am_m84, am_t84), (am_m85, am_t85), (am_m86, am_t86), (am_m87, am_t87), (am_m88, am_t88), (am_m89, am_t89), (am_m90, am_t90), (am_m91, am_t91), (am_m92, am_t92), (am_m93, am_t93), (am_m94, am_t94), (am_m95, am_t95), (am_m96, am_t96), (am_m97, am_t97), (am_m98, am_t98), (am_m99, am_t99), (am_m100, am_t100), (am_m101, am_t101), (am_m102, am_t102), (am_m103, am_t103), (am_m104, am_t104), (am_m105, am_t105), (am_m106, am_t106), (am_m107, am_t107), (am_m108, am_t108), (am_m109, am_t109), (am_m110, am_t110), (am_m111, am_t111), (am_m112, am_t112), (am_m113, am_t113), (am_m114, am_t114), (am_m115, am_t115), (am_m116, am_t116), (am_m117, am_t117), (am_m118, am_t118), (am_m119, am_t119), (am_m120, am_t120), (am_m121, am_t121), (am_m122, am_t122), (am_m123, am_t123), (am_m124, am_t124), (am_m125, am_t125), (am_m126, am_t126), (am_m127, am_t127), (am_m128, am_t128), (am_m129, am_t129), (am_m130, am_t130), (am_m131, am_t131), (am_m132, am_t132), (am_m133, am_t133), (am_m134, am_t134), (am_m135, am_t135), (am_m136, am_t136), (am_m137, am_t137), (am_m138, am_t138), (am_m139, am_t139), (am_m140, am_t140), (am_m141, am_t141), (am_m142, am_t142), (am_m143, am_t143), (am_m144, am_t144), (am_m145, am_t145), (am_m146, am_t146), (am_m147, am_t147), (am_m148, am_t148), (am_m149, am_t149), (am_m150, am_t150), (am_m151, am_t151), (am_m152, am_t152), (am_m153, am_t153), (am_m154, am_t154), (am_m155, am_t155), (am_m156, am_t156), (am_m157, am_t157), (am_m158, am_t158), (am_m159, am_t159), (am_m160, am_t160), (am_m161, am_t161), (am_m162, am_t162), (am_m163, am_t163), (am_m164, am_t164), (am_m165, am_t165), (am_m166, am_t166), (am_m167, am_t167), (am_m168, am_t168), (am_m169, am_t169), (am_m170, am_t170), (am_m171, am_t171), (am_m172, am_t172), (am_m173, am_t173), (am_m174, am_t174), (am_m175, am_t175), (am_m176, am_t176), (am_m177, am_t177), (am_m178, am_t178), (am_m179, am_t179), (am_m180, am_t180), (am_m181, am_t181), (am_m182, am_t182), (am_m183, am_t183), (am_m184, am_t184), (am_m185, am_t185), (am_m186, am_t186), (am_m187, am_t187), (am_m188, am_t188), (am_m189, am_t189), (am_m190, am_t190), (am_m191, am_t191), (am_m192, am_t192), (am_m193, am_t193), (am_m194, am_t194), (am_m195, am_t195), (am_m196, am_t196), (am_m197, am_t197), (am_m198, am_t198), (am_m199, am_t199), (am_m200, am_t200), (am_m201, am_t201), (am_m202, am_t202), (am_m203, am_t203), (am_m204, am_t204), (am_m205, am_t205), (am_m206, am_t206), (am_m207, am_t207), (am_m208, am_t208), (am_m209, am_t209), (am_m210, am_t210), (am_m211, am_t211), (am_m212, am_t212), (am_m213, am_t213), (am_m214, am_t214), (am_m215, am_t215), (am_m216, am_t216), (am_m217, am_t217), (am_m218, am_t218), (am_m219, am_t219), (am_m220, am_t220), (am_m221, am_t221), (am_m222, am_t222), (am_m223, am_t223), (am_m224, am_t224), (am_m225, am_t225), (am_m226, am_t226), (am_m227, am_t227), (am_m228, am_t228), (am_m229, am_t229), (am_m230, am_t230), (am_m231, am_t231), (am_m232, am_t232), (am_m233, am_t233), (am_m234, am_t234), (am_m235, am_t235), (am_m236, am_t236), (am_m237, am_t237), (am_m238, am_t238), (am_m239, am_t239), (am_m240, am_t240), (am_m241, am_t241), (am_m242, am_t242), (am_m243, am_t243), (am_m244, am_t244), (am_m245, am_t245), (am_m246, am_t246), (am_m247, am_t247), (am_m248, am_t248), (am_m249, am_t249), (am_m250, am_t250), (am_m251, am_t251), (am_m252, am_t252), (am_m253, am_t253), (am_m254, am_t254), (am_m255, am_t255), (am_m256, am_t256), (am_m257, am_t257), (am_m258, am_t258), (am_m259, am_t259), (am_m260, am_t260), (am_m261, am_t261), (am_m262, am_t262), (am_m263, am_t263), (am_m264, am_t264), (am_m265, am_t265), (am_m266, am_t266), (am_m267, am_t267), (am_m268, am_t268), (am_m269, am_t269), (am_m270, am_t270), (am_m271, am_t271), (am_m272, am_t272), (am_m273, am_t273), (am_m274, am_t274), (am_m275, am_t275), (am_m276, am_t276), (am_m277, am_t277), (am_m278, am_t278), (am_m279, am_t279), (am_m280, am_t280), (am_m281, am_t281), (am_m282, am_t282), (am_m283, am_t283), (am_m284, am_t284), (am_m285, am_t285), (am_m286, am_t286), (am_m287, am_t287), (am_m288, am_t288), (am_m289, am_t289), (am_m290, am_t290), (am_m291, am_t291), (am_m292, am_t292), (am_m293, am_t293), (am_m294, am_t294), (am_m295, am_t295), (am_m296, am_t296), (am_m297, am_t297), (am_m298, am_t298), (am_m299, am_t299), (am_m300, am_t300), (am_m301, am_t301), (am_m302, am_t302), (am_m303, am_t303), (am_m304, am_t304), (am_m305, am_t305), (am_m306, am_t306), (am_m307, am_t307), (am_m308, am_t308)]
