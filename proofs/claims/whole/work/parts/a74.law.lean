/-! the law -/
theorem la_1 (l : Nat) : (1 ≤ l + 1) ↔ True := iff_true_intro (by omega)
theorem lb_1 (r : Option Int) : ((Option.map (Sum.inl : Int → AV) r).toList.length + 1 ≤ 5) ↔ True := iff_true_intro (by cases r <;> simp)
theorem la_2 (l : Nat) : (2 ≤ l + 1 + 1) ↔ True := iff_true_intro (by omega)
theorem lb_2 (r : Option Int) : ((Option.map (Sum.inl : Int → AV) r).toList.length + 1 + 1 ≤ 6) ↔ True := iff_true_intro (by cases r <;> simp)
theorem la_3 (l : Nat) : (3 ≤ l + 1 + 1 + 1) ↔ True := iff_true_intro (by omega)
theorem lb_3 (r : Option Int) : ((Option.map (Sum.inl : Int → AV) r).toList.length + 1 + 1 + 1 ≤ 7) ↔ True := iff_true_intro (by cases r <;> simp)
theorem la_4 (l : Nat) : (4 ≤ l + 1 + 1 + 1 + 1) ↔ True := iff_true_intro (by omega)
theorem lb_4 (r : Option Int) : ((Option.map (Sum.inl : Int → AV) r).toList.length + 1 + 1 + 1 + 1 ≤ 8) ↔ True := iff_true_intro (by cases r <;> simp)
theorem la_5 (l : Nat) : (5 ≤ l + 1 + 1 + 1 + 1 + 1) ↔ True := iff_true_intro (by omega)
theorem lb_5 (r : Option Int) : ((Option.map (Sum.inl : Int → AV) r).toList.length + 1 + 1 + 1 + 1 + 1 ≤ 9) ↔ True := iff_true_intro (by cases r <;> simp)
def ca_L_law : Nat → Option (Nat × Nat × Tr)
  | 13 => some (3, 6, T_X6_job)
  | 17 => some (3, 7, T_X7_job)
  | 18 => some (4, 6, T_X6_operation)
  | 22 => some (4, 7, T_X7_operation)
  | 23 => some (3, 6, T_X6_change)
  | 26 => some (3, 7, T_X7_change)
  | 27 => some (3, 6, T_X6_swap)
  | 30 => some (3, 7, T_X7_swap)
  | 31 => some (1, 6, T_X6_takeBest)
  | 35 => some (1, 7, T_X7_takeBest)
  | 36 => some (1, 6, T_X6_improve)
  | 39 => some (1, 7, T_X7_improve)
  | 40 => some (1, 6, T_X6_length)
  | 43 => some (1, 7, T_X7_length)
  | 44 => some (3, 6, T_X6_about)
  | 47 => some (3, 7, T_X7_about)
  | 48 => some (2, 6, T_X6_path)
  | 52 => some (2, 7, T_X7_path)
  | 53 => some (3, 6, T_X6_order)
  | 56 => some (3, 7, T_X7_order)
  | 57 => some (3, 6, T_X6_ofJob)
  | 60 => some (3, 7, T_X7_ofJob)
  | 61 => some (2, 6, T_X6_count)
  | 64 => some (2, 7, T_X7_count)
  | 65 => some (2, 6, T_X6_bound)
  | 68 => some (2, 7, T_X7_bound)
  | 69 => some (2, 6, T_X6_forced2)
  | 72 => some (2, 7, T_X7_forced)
  | 73 => some (4, 6, T_X6_isForced)
  | 76 => some (4, 7, T_X7_isForced)
  | 77 => some (3, 6, T_X6_best)
  | 80 => some (3, 7, T_X7_best)
  | 81 => some (5, 6, T_X6_breakdown)
  | 85 => some (5, 7, T_X7_breakdown)
  | 88 => some (2, 6, T_X6_put)
  | 92 => some (2, 7, T_X7_put)
  | 93 => some (1, 6, T_X6_wipe)
  | 96 => some (1, 7, T_X7_wipe)
  | 97 => some (2, 6, T_X6_fault)
  | 100 => some (2, 7, T_X7_fault)
  | 101 => some (1, 6, T_X6_loadRoutes)
  | 104 => some (1, 7, T_X7_loadRoutes)
  | 105 => some (1, 6, T_X6_loadPlan)
  | 108 => some (1, 7, T_X7_loadPlan)
  | 109 => some (1, 6, T_X6_undo)
  | 112 => some (1, 7, T_X7_undo)
  | 113 => some (2, 6, T_X6_save)
  | 116 => some (2, 7, T_X7_save)
  | 117 => some (2, 6, T_X6_restore)
  | 120 => some (2, 7, T_X7_restore)
  | _ => none
theorem cao_L_law (l : Launch) : ∀ k n' ci T', ca_L_law k = some (n', ci, T') → ∃ nn, nn + 1 ≤ 38 ∧ Site l RL k n' ci nn T' := by
  intro k n' ci T' h
  unfold ca_L_law at h
  split at h
  · cases h; exact ⟨4, by decide, _, _, _, _, k_X6_job l, Or.inl ⟨_, rfl, FX6_job, KRL_13⟩⟩
  · cases h; exact ⟨1, by decide, _, _, _, _, k_X7_job l, Or.inl ⟨_, rfl, FX7_job, KRL_17⟩⟩
  · cases h; exact ⟨4, by decide, _, _, _, _, k_X6_operation l, Or.inl ⟨_, rfl, FX6_operation, KRL_18⟩⟩
  · cases h; exact ⟨2, by decide, _, _, _, _, k_X7_operation l, Or.inl ⟨_, rfl, FX7_operation, KRL_22⟩⟩
  · cases h; exact ⟨4, by decide, _, _, _, _, k_X6_change l, Or.inl ⟨_, rfl, FX6_change, KRL_23⟩⟩
  · cases h; exact ⟨2, by decide, _, _, _, _, k_X7_change l, Or.inl ⟨_, rfl, FX7_change, KRL_26⟩⟩
  · cases h; exact ⟨6, by decide, _, _, _, _, k_X6_swap l, Or.inl ⟨_, rfl, FX6_swap, KRL_27⟩⟩
  · cases h; exact ⟨5, by decide, _, _, _, _, k_X7_swap l, Or.inl ⟨_, rfl, FX7_swap, KRL_30⟩⟩
  · cases h; exact ⟨37, by decide, _, _, _, _, k_X6_takeBest l, Or.inl ⟨_, rfl, FX6_takeBest, KRL_31⟩⟩
  · cases h; exact ⟨6, by decide, _, _, _, _, k_X7_takeBest l, Or.inl ⟨_, rfl, FX7_takeBest, KRL_35⟩⟩
  · cases h; exact ⟨6, by decide, _, _, _, _, k_X6_improve l, Or.inl ⟨_, rfl, FX6_improve, KRL_36⟩⟩
  · cases h; exact ⟨6, by decide, _, _, _, _, k_X7_improve l, Or.inl ⟨_, rfl, FX7_improve, KRL_39⟩⟩
  · cases h; exact ⟨6, by decide, _, _, _, _, k_X6_length l, Or.inl ⟨_, rfl, FX6_length, KRL_40⟩⟩
  · cases h; exact ⟨5, by decide, _, _, _, _, k_X7_length l, Or.inl ⟨_, rfl, FX7_length, KRL_43⟩⟩
  · cases h; exact ⟨6, by decide, _, _, _, _, k_X6_about l, Or.inl ⟨_, rfl, FX6_about, KRL_44⟩⟩
  · cases h; exact ⟨6, by decide, _, _, _, _, k_X7_about l, Or.inl ⟨_, rfl, FX7_about, KRL_47⟩⟩
  · cases h; exact ⟨6, by decide, _, _, _, _, k_X6_path l, Or.inl ⟨_, rfl, FX6_path, KRL_48⟩⟩
  · cases h; exact ⟨6, by decide, _, _, _, _, k_X7_path l, Or.inl ⟨_, rfl, FX7_path, KRL_52⟩⟩
  · cases h; exact ⟨2, by decide, _, _, _, _, k_X6_order l, Or.inl ⟨_, rfl, FX6_order, KRL_53⟩⟩
  · cases h; exact ⟨1, by decide, _, _, _, _, k_X7_order l, Or.inl ⟨_, rfl, FX7_order, KRL_56⟩⟩
  · cases h; exact ⟨6, by decide, _, _, _, _, k_X6_ofJob l, Or.inl ⟨_, rfl, FX6_ofJob, KRL_57⟩⟩
  · cases h; exact ⟨5, by decide, _, _, _, _, k_X7_ofJob l, Or.inl ⟨_, rfl, FX7_ofJob, KRL_60⟩⟩
  · cases h; exact ⟨6, by decide, _, _, _, _, k_X6_count l, Or.inl ⟨_, rfl, FX6_count, KRL_61⟩⟩
  · cases h; exact ⟨7, by decide, _, _, _, _, k_X7_count l, Or.inl ⟨_, rfl, FX7_count, KRL_64⟩⟩
  · cases h; exact ⟨3, by decide, _, _, _, _, k_X6_bound l, Or.inl ⟨_, rfl, FX6_bound, KRL_65⟩⟩
  · cases h; exact ⟨4, by decide, _, _, _, _, k_X7_bound l, Or.inl ⟨_, rfl, FX7_bound, KRL_68⟩⟩
  · cases h; exact ⟨4, by decide, _, _, _, _, k_X6_forced2 l, Or.inl ⟨_, rfl, FX6_forced, KRL_69⟩⟩
  · cases h; exact ⟨5, by decide, _, _, _, _, k_X7_forced l, Or.inl ⟨_, rfl, FX7_forced, KRL_72⟩⟩
  · cases h; exact ⟨4, by decide, _, _, _, _, k_X6_isForced l, Or.inl ⟨_, rfl, FX6_isForced, KRL_73⟩⟩
  · cases h; exact ⟨5, by decide, _, _, _, _, k_X7_isForced l, Or.inl ⟨_, rfl, FX7_isForced, KRL_76⟩⟩
  · cases h; exact ⟨37, by decide, _, _, _, _, k_X6_best l, Or.inl ⟨_, rfl, FX6_best, KRL_77⟩⟩
  · cases h; exact ⟨6, by decide, _, _, _, _, k_X7_best l, Or.inl ⟨_, rfl, FX7_best, KRL_80⟩⟩
  · cases h; exact ⟨37, by decide, _, _, _, _, k_X6_breakdown l, Or.inl ⟨_, rfl, FX6_breakdown, KRL_81⟩⟩
  · cases h; exact ⟨5, by decide, _, _, _, _, k_X7_breakdown l, Or.inl ⟨_, rfl, FX7_breakdown, KRL_85⟩⟩
  · cases h; exact ⟨2, by decide, _, _, _, _, k_X6_put l, Or.inl ⟨_, rfl, FX6_put, KRL_88⟩⟩
  · cases h; exact ⟨1, by decide, _, _, _, _, k_X7_put l, Or.inl ⟨_, rfl, FX7_put, KRL_92⟩⟩
  · cases h; exact ⟨0, by decide, _, _, _, _, k_X6_wipe l, Or.inl ⟨_, rfl, FX6_wipe, KRL_93⟩⟩
  · cases h; exact ⟨0, by decide, _, _, _, _, k_X7_wipe l, Or.inl ⟨_, rfl, FX7_wipe, KRL_96⟩⟩
  · cases h; exact ⟨5, by decide, _, _, _, _, k_X6_fault l, Or.inl ⟨_, rfl, FX6_fault, KRL_97⟩⟩
  · cases h; exact ⟨5, by decide, _, _, _, _, k_X7_fault l, Or.inl ⟨_, rfl, FX7_fault, KRL_100⟩⟩
  · cases h; exact ⟨5, by decide, _, _, _, _, k_X6_loadRoutes l, Or.inl ⟨_, rfl, FX6_loadRoutes, KRL_101⟩⟩
  · cases h; exact ⟨5, by decide, _, _, _, _, k_X7_loadRoutes l, Or.inl ⟨_, rfl, FX7_loadRoutes, KRL_104⟩⟩
  · cases h; exact ⟨6, by decide, _, _, _, _, k_X6_loadPlan l, Or.inl ⟨_, rfl, FX6_loadPlan, KRL_105⟩⟩
  · cases h; exact ⟨5, by decide, _, _, _, _, k_X7_loadPlan l, Or.inl ⟨_, rfl, FX7_loadPlan, KRL_108⟩⟩
  · cases h; exact ⟨3, by decide, _, _, _, _, k_X6_undo l, Or.inl ⟨_, rfl, FX6_undo, KRL_109⟩⟩
  · cases h; exact ⟨0, by decide, _, _, _, _, k_X7_undo l, Or.inl ⟨_, rfl, FX7_undo, KRL_112⟩⟩
  · cases h; exact ⟨2, by decide, _, _, _, _, k_X6_save l, Or.inl ⟨_, rfl, FX6_save, KRL_113⟩⟩
  · cases h; exact ⟨1, by decide, _, _, _, _, k_X7_save l, Or.inl ⟨_, rfl, FX7_save, KRL_116⟩⟩
  · cases h; exact ⟨4, by decide, _, _, _, _, k_X6_restore l, Or.inl ⟨_, rfl, FX6_restore, KRL_117⟩⟩
  · cases h; exact ⟨1, by decide, _, _, _, _, k_X7_restore l, Or.inl ⟨_, rfl, FX7_restore, KRL_120⟩⟩
  · cases h
def lawM (n : Nat) (s : Int → Int) : MI := (fun _ => none, kcL, klL, ca_L_law, true, n, s)
def lawI (n : Nat) (L : LL) (S : List AV) (σ : Mem) (k : Nat) : Prop := ∃ i : Int, L = [some (.inr (.inl (56, 0))), some (.inr (.inl (6, 0))), some (.inr (.inl (7, 0))), some (.inl i)] ∧ S = [] ∧ REL σ ∧ 0 ≤ i ∧ i ≤ n ∧ k = 2 * ((n : Int) + 10 - i).toNat + 1
def lawJ (n : Nat) (L : LL) (S : List AV) (σ : Mem) (k : Nat) : Prop := ∃ i : Int, L = [some (.inr (.inl (56, 0))), some (.inr (.inl (6, 0))), some (.inr (.inl (7, 0))), some (.inl i)] ∧ S = [] ∧ REL σ ∧ 0 ≤ i ∧ i + 5 ≤ n ∧ k = 2 * ((n : Int) + 10 - i).toNat
def lawB (pc : Nat) : Bool := pc == 148 || pc == 181 || pc == 224 || pc == 257 || pc == 290 || pc == 303 || pc == 316 || pc == 329 || pc == 362 || pc == 385 || pc == 418 || pc == 451 || pc == 474 || pc == 497 || pc == 520 || pc == 563 || pc == 596 || pc == 649 || pc == 702 || pc == 715 || pc == 738 || pc == 751 || pc == 764 || pc == 777 || pc == 800
def lawC (n : Nat) : Cut := fun pc => if pc = 18 then some (lawI n) else if lawB pc = true then some (lawJ n) else none
def lawK (r : Option Int) (_σ : Mem) : Prop := r = some 1
set_option maxRecDepth 100000 in
theorem dw_16 : drp 16 CL_law = (16, .iconst 0, 1, []) :: (17, .istore_n 3, 1, []) :: drp 18 CL_law := rfl
set_option maxRecDepth 100000 in
theorem dw_18 : drp 18 CL_law = (18, .iload_n 3, 1, []) :: (19, .aload_n 0, 1, []) :: (20, .arraylength, 1, []) :: (21, .iconst 5, 1, []) :: (22, .isub, 1, []) :: (23, .if_icmp .gt 806, 3, [829]) :: (26, .aload_n 0, 1, []) :: (27, .iload_n 3, 1, []) :: (28, .iaload, 1, []) :: (29, .bipush 31, 2, []) :: (31, .iand, 1, []) :: (32, .tableswitch 791 0 24 #[116, 149, 192, 225, 258, 271, 284, 297, 330, 353, 386, 419, 442, 465, 488, 531, 564, 617, 670, 683, 706, 719, 732, 745, 768], 116, [823, 148, 181, 224, 257, 290, 303, 316, 329, 362, 385, 418, 451, 474, 497, 520, 563, 596, 649, 702, 715, 738, 751, 764, 777, 800]) :: drp 148 CL_law := rfl
set_option maxRecDepth 100000 in
theorem dw_823 : drp 823 CL_law = (823, .iinc 3 5, 3, []) :: (826, .goto (-808), 3, [18]) :: drp 829 CL_law := rfl
set_option maxRecDepth 100000 in
theorem dw_829 : drp 829 CL_law = (829, .iconst 1, 1, []) :: (830, .ireturn, 1, []) :: drp 831 CL_law := rfl
set_option maxRecDepth 100000 in
theorem dw_148 : drp 148 CL_law = (148, .aload_n 1, 1, []) :: (149, .aload_n 0, 1, []) :: (150, .iload_n 3, 1, []) :: (151, .iconst 1, 1, []) :: (152, .iadd, 1, []) :: (153, .iaload, 1, []) :: (154, .aload_n 0, 1, []) :: (155, .iload_n 3, 1, []) :: (156, .iconst 2, 1, []) :: (157, .iadd, 1, []) :: (158, .iaload, 1, []) :: (159, .invokevirtual 13, 3, []) :: (162, .aload_n 2, 1, []) :: (163, .aload_n 0, 1, []) :: (164, .iload_n 3, 1, []) :: (165, .iconst 1, 1, []) :: (166, .iadd, 1, []) :: (167, .iaload, 1, []) :: (168, .aload_n 0, 1, []) :: (169, .iload_n 3, 1, []) :: (170, .iconst 2, 1, []) :: (171, .iadd, 1, []) :: (172, .iaload, 1, []) :: (173, .invokevirtual 17, 3, []) :: (176, .if_icmp .eq 647, 3, [823]) :: (179, .iconst 0, 1, []) :: (180, .ireturn, 1, []) :: drp 181 CL_law := rfl
set_option maxRecDepth 100000 in
theorem dw_181 : drp 181 CL_law = (181, .aload_n 1, 1, []) :: (182, .aload_n 0, 1, []) :: (183, .iload_n 3, 1, []) :: (184, .iconst 1, 1, []) :: (185, .iadd, 1, []) :: (186, .iaload, 1, []) :: (187, .aload_n 0, 1, []) :: (188, .iload_n 3, 1, []) :: (189, .iconst 2, 1, []) :: (190, .iadd, 1, []) :: (191, .iaload, 1, []) :: (192, .aload_n 0, 1, []) :: (193, .iload_n 3, 1, []) :: (194, .iconst 3, 1, []) :: (195, .iadd, 1, []) :: (196, .iaload, 1, []) :: (197, .invokevirtual 18, 3, []) :: (200, .aload_n 2, 1, []) :: (201, .aload_n 0, 1, []) :: (202, .iload_n 3, 1, []) :: (203, .iconst 1, 1, []) :: (204, .iadd, 1, []) :: (205, .iaload, 1, []) :: (206, .aload_n 0, 1, []) :: (207, .iload_n 3, 1, []) :: (208, .iconst 2, 1, []) :: (209, .iadd, 1, []) :: (210, .iaload, 1, []) :: (211, .aload_n 0, 1, []) :: (212, .iload_n 3, 1, []) :: (213, .iconst 3, 1, []) :: (214, .iadd, 1, []) :: (215, .iaload, 1, []) :: (216, .invokevirtual 22, 3, []) :: (219, .if_icmp .eq 604, 3, [823]) :: (222, .iconst 0, 1, []) :: (223, .ireturn, 1, []) :: drp 224 CL_law := rfl
set_option maxRecDepth 100000 in
theorem dw_224 : drp 224 CL_law = (224, .aload_n 1, 1, []) :: (225, .aload_n 0, 1, []) :: (226, .iload_n 3, 1, []) :: (227, .iconst 1, 1, []) :: (228, .iadd, 1, []) :: (229, .iaload, 1, []) :: (230, .aload_n 0, 1, []) :: (231, .iload_n 3, 1, []) :: (232, .iconst 2, 1, []) :: (233, .iadd, 1, []) :: (234, .iaload, 1, []) :: (235, .invokevirtual 23, 3, []) :: (238, .aload_n 2, 1, []) :: (239, .aload_n 0, 1, []) :: (240, .iload_n 3, 1, []) :: (241, .iconst 1, 1, []) :: (242, .iadd, 1, []) :: (243, .iaload, 1, []) :: (244, .aload_n 0, 1, []) :: (245, .iload_n 3, 1, []) :: (246, .iconst 2, 1, []) :: (247, .iadd, 1, []) :: (248, .iaload, 1, []) :: (249, .invokevirtual 26, 3, []) :: (252, .if_icmp .eq 571, 3, [823]) :: (255, .iconst 0, 1, []) :: (256, .ireturn, 1, []) :: drp 257 CL_law := rfl
set_option maxRecDepth 100000 in
theorem dw_257 : drp 257 CL_law = (257, .aload_n 1, 1, []) :: (258, .aload_n 0, 1, []) :: (259, .iload_n 3, 1, []) :: (260, .iconst 1, 1, []) :: (261, .iadd, 1, []) :: (262, .iaload, 1, []) :: (263, .aload_n 0, 1, []) :: (264, .iload_n 3, 1, []) :: (265, .iconst 2, 1, []) :: (266, .iadd, 1, []) :: (267, .iaload, 1, []) :: (268, .invokevirtual 27, 3, []) :: (271, .aload_n 2, 1, []) :: (272, .aload_n 0, 1, []) :: (273, .iload_n 3, 1, []) :: (274, .iconst 1, 1, []) :: (275, .iadd, 1, []) :: (276, .iaload, 1, []) :: (277, .aload_n 0, 1, []) :: (278, .iload_n 3, 1, []) :: (279, .iconst 2, 1, []) :: (280, .iadd, 1, []) :: (281, .iaload, 1, []) :: (282, .invokevirtual 30, 3, []) :: (285, .if_icmp .eq 538, 3, [823]) :: (288, .iconst 0, 1, []) :: (289, .ireturn, 1, []) :: drp 290 CL_law := rfl
set_option maxRecDepth 100000 in
theorem dw_290 : drp 290 CL_law = (290, .aload_n 1, 1, []) :: (291, .invokevirtual 31, 3, []) :: (294, .aload_n 2, 1, []) :: (295, .invokevirtual 35, 3, []) :: (298, .if_icmp .eq 525, 3, [823]) :: (301, .iconst 0, 1, []) :: (302, .ireturn, 1, []) :: drp 303 CL_law := rfl
set_option maxRecDepth 100000 in
theorem dw_303 : drp 303 CL_law = (303, .aload_n 1, 1, []) :: (304, .invokevirtual 36, 3, []) :: (307, .aload_n 2, 1, []) :: (308, .invokevirtual 39, 3, []) :: (311, .if_icmp .eq 512, 3, [823]) :: (314, .iconst 0, 1, []) :: (315, .ireturn, 1, []) :: drp 316 CL_law := rfl
set_option maxRecDepth 100000 in
theorem dw_316 : drp 316 CL_law = (316, .aload_n 1, 1, []) :: (317, .invokevirtual 40, 3, []) :: (320, .aload_n 2, 1, []) :: (321, .invokevirtual 43, 3, []) :: (324, .if_icmp .eq 499, 3, [823]) :: (327, .iconst 0, 1, []) :: (328, .ireturn, 1, []) :: drp 329 CL_law := rfl
set_option maxRecDepth 100000 in
theorem dw_329 : drp 329 CL_law = (329, .aload_n 1, 1, []) :: (330, .aload_n 0, 1, []) :: (331, .iload_n 3, 1, []) :: (332, .iconst 1, 1, []) :: (333, .iadd, 1, []) :: (334, .iaload, 1, []) :: (335, .aload_n 0, 1, []) :: (336, .iload_n 3, 1, []) :: (337, .iconst 2, 1, []) :: (338, .iadd, 1, []) :: (339, .iaload, 1, []) :: (340, .invokevirtual 44, 3, []) :: (343, .aload_n 2, 1, []) :: (344, .aload_n 0, 1, []) :: (345, .iload_n 3, 1, []) :: (346, .iconst 1, 1, []) :: (347, .iadd, 1, []) :: (348, .iaload, 1, []) :: (349, .aload_n 0, 1, []) :: (350, .iload_n 3, 1, []) :: (351, .iconst 2, 1, []) :: (352, .iadd, 1, []) :: (353, .iaload, 1, []) :: (354, .invokevirtual 47, 3, []) :: (357, .if_icmp .eq 466, 3, [823]) :: (360, .iconst 0, 1, []) :: (361, .ireturn, 1, []) :: drp 362 CL_law := rfl
set_option maxRecDepth 100000 in
theorem dw_362 : drp 362 CL_law = (362, .aload_n 1, 1, []) :: (363, .aload_n 0, 1, []) :: (364, .iload_n 3, 1, []) :: (365, .iconst 1, 1, []) :: (366, .iadd, 1, []) :: (367, .iaload, 1, []) :: (368, .invokevirtual 48, 3, []) :: (371, .aload_n 2, 1, []) :: (372, .aload_n 0, 1, []) :: (373, .iload_n 3, 1, []) :: (374, .iconst 1, 1, []) :: (375, .iadd, 1, []) :: (376, .iaload, 1, []) :: (377, .invokevirtual 52, 3, []) :: (380, .if_icmp .eq 443, 3, [823]) :: (383, .iconst 0, 1, []) :: (384, .ireturn, 1, []) :: drp 385 CL_law := rfl
set_option maxRecDepth 100000 in
theorem dw_385 : drp 385 CL_law = (385, .aload_n 1, 1, []) :: (386, .aload_n 0, 1, []) :: (387, .iload_n 3, 1, []) :: (388, .iconst 1, 1, []) :: (389, .iadd, 1, []) :: (390, .iaload, 1, []) :: (391, .aload_n 0, 1, []) :: (392, .iload_n 3, 1, []) :: (393, .iconst 2, 1, []) :: (394, .iadd, 1, []) :: (395, .iaload, 1, []) :: (396, .invokevirtual 53, 3, []) :: (399, .aload_n 2, 1, []) :: (400, .aload_n 0, 1, []) :: (401, .iload_n 3, 1, []) :: (402, .iconst 1, 1, []) :: (403, .iadd, 1, []) :: (404, .iaload, 1, []) :: (405, .aload_n 0, 1, []) :: (406, .iload_n 3, 1, []) :: (407, .iconst 2, 1, []) :: (408, .iadd, 1, []) :: (409, .iaload, 1, []) :: (410, .invokevirtual 56, 3, []) :: (413, .if_icmp .eq 410, 3, [823]) :: (416, .iconst 0, 1, []) :: (417, .ireturn, 1, []) :: drp 418 CL_law := rfl
set_option maxRecDepth 100000 in
theorem dw_418 : drp 418 CL_law = (418, .aload_n 1, 1, []) :: (419, .aload_n 0, 1, []) :: (420, .iload_n 3, 1, []) :: (421, .iconst 1, 1, []) :: (422, .iadd, 1, []) :: (423, .iaload, 1, []) :: (424, .aload_n 0, 1, []) :: (425, .iload_n 3, 1, []) :: (426, .iconst 2, 1, []) :: (427, .iadd, 1, []) :: (428, .iaload, 1, []) :: (429, .invokevirtual 57, 3, []) :: (432, .aload_n 2, 1, []) :: (433, .aload_n 0, 1, []) :: (434, .iload_n 3, 1, []) :: (435, .iconst 1, 1, []) :: (436, .iadd, 1, []) :: (437, .iaload, 1, []) :: (438, .aload_n 0, 1, []) :: (439, .iload_n 3, 1, []) :: (440, .iconst 2, 1, []) :: (441, .iadd, 1, []) :: (442, .iaload, 1, []) :: (443, .invokevirtual 60, 3, []) :: (446, .if_icmp .eq 377, 3, [823]) :: (449, .iconst 0, 1, []) :: (450, .ireturn, 1, []) :: drp 451 CL_law := rfl
set_option maxRecDepth 100000 in
theorem dw_451 : drp 451 CL_law = (451, .aload_n 1, 1, []) :: (452, .aload_n 0, 1, []) :: (453, .iload_n 3, 1, []) :: (454, .iconst 1, 1, []) :: (455, .iadd, 1, []) :: (456, .iaload, 1, []) :: (457, .invokevirtual 61, 3, []) :: (460, .aload_n 2, 1, []) :: (461, .aload_n 0, 1, []) :: (462, .iload_n 3, 1, []) :: (463, .iconst 1, 1, []) :: (464, .iadd, 1, []) :: (465, .iaload, 1, []) :: (466, .invokevirtual 64, 3, []) :: (469, .if_icmp .eq 354, 3, [823]) :: (472, .iconst 0, 1, []) :: (473, .ireturn, 1, []) :: drp 474 CL_law := rfl
set_option maxRecDepth 100000 in
theorem dw_474 : drp 474 CL_law = (474, .aload_n 1, 1, []) :: (475, .aload_n 0, 1, []) :: (476, .iload_n 3, 1, []) :: (477, .iconst 1, 1, []) :: (478, .iadd, 1, []) :: (479, .iaload, 1, []) :: (480, .invokevirtual 65, 3, []) :: (483, .aload_n 2, 1, []) :: (484, .aload_n 0, 1, []) :: (485, .iload_n 3, 1, []) :: (486, .iconst 1, 1, []) :: (487, .iadd, 1, []) :: (488, .iaload, 1, []) :: (489, .invokevirtual 68, 3, []) :: (492, .if_icmp .eq 331, 3, [823]) :: (495, .iconst 0, 1, []) :: (496, .ireturn, 1, []) :: drp 497 CL_law := rfl
set_option maxRecDepth 100000 in
theorem dw_497 : drp 497 CL_law = (497, .aload_n 1, 1, []) :: (498, .aload_n 0, 1, []) :: (499, .iload_n 3, 1, []) :: (500, .iconst 1, 1, []) :: (501, .iadd, 1, []) :: (502, .iaload, 1, []) :: (503, .invokevirtual 69, 3, []) :: (506, .aload_n 2, 1, []) :: (507, .aload_n 0, 1, []) :: (508, .iload_n 3, 1, []) :: (509, .iconst 1, 1, []) :: (510, .iadd, 1, []) :: (511, .iaload, 1, []) :: (512, .invokevirtual 72, 3, []) :: (515, .if_icmp .eq 308, 3, [823]) :: (518, .iconst 0, 1, []) :: (519, .ireturn, 1, []) :: drp 520 CL_law := rfl
set_option maxRecDepth 100000 in
theorem dw_520 : drp 520 CL_law = (520, .aload_n 1, 1, []) :: (521, .aload_n 0, 1, []) :: (522, .iload_n 3, 1, []) :: (523, .iconst 1, 1, []) :: (524, .iadd, 1, []) :: (525, .iaload, 1, []) :: (526, .aload_n 0, 1, []) :: (527, .iload_n 3, 1, []) :: (528, .iconst 2, 1, []) :: (529, .iadd, 1, []) :: (530, .iaload, 1, []) :: (531, .aload_n 0, 1, []) :: (532, .iload_n 3, 1, []) :: (533, .iconst 3, 1, []) :: (534, .iadd, 1, []) :: (535, .iaload, 1, []) :: (536, .invokevirtual 73, 3, []) :: (539, .aload_n 2, 1, []) :: (540, .aload_n 0, 1, []) :: (541, .iload_n 3, 1, []) :: (542, .iconst 1, 1, []) :: (543, .iadd, 1, []) :: (544, .iaload, 1, []) :: (545, .aload_n 0, 1, []) :: (546, .iload_n 3, 1, []) :: (547, .iconst 2, 1, []) :: (548, .iadd, 1, []) :: (549, .iaload, 1, []) :: (550, .aload_n 0, 1, []) :: (551, .iload_n 3, 1, []) :: (552, .iconst 3, 1, []) :: (553, .iadd, 1, []) :: (554, .iaload, 1, []) :: (555, .invokevirtual 76, 3, []) :: (558, .if_icmp .eq 265, 3, [823]) :: (561, .iconst 0, 1, []) :: (562, .ireturn, 1, []) :: drp 563 CL_law := rfl
set_option maxRecDepth 100000 in
theorem dw_563 : drp 563 CL_law = (563, .aload_n 1, 1, []) :: (564, .aload_n 0, 1, []) :: (565, .iload_n 3, 1, []) :: (566, .iconst 1, 1, []) :: (567, .iadd, 1, []) :: (568, .iaload, 1, []) :: (569, .aload_n 0, 1, []) :: (570, .iload_n 3, 1, []) :: (571, .iconst 2, 1, []) :: (572, .iadd, 1, []) :: (573, .iaload, 1, []) :: (574, .invokevirtual 77, 3, []) :: (577, .aload_n 2, 1, []) :: (578, .aload_n 0, 1, []) :: (579, .iload_n 3, 1, []) :: (580, .iconst 1, 1, []) :: (581, .iadd, 1, []) :: (582, .iaload, 1, []) :: (583, .aload_n 0, 1, []) :: (584, .iload_n 3, 1, []) :: (585, .iconst 2, 1, []) :: (586, .iadd, 1, []) :: (587, .iaload, 1, []) :: (588, .invokevirtual 80, 3, []) :: (591, .if_icmp .eq 232, 3, [823]) :: (594, .iconst 0, 1, []) :: (595, .ireturn, 1, []) :: drp 596 CL_law := rfl
set_option maxRecDepth 100000 in
theorem dw_596 : drp 596 CL_law = (596, .aload_n 1, 1, []) :: (597, .aload_n 0, 1, []) :: (598, .iload_n 3, 1, []) :: (599, .iconst 1, 1, []) :: (600, .iadd, 1, []) :: (601, .iaload, 1, []) :: (602, .aload_n 0, 1, []) :: (603, .iload_n 3, 1, []) :: (604, .iconst 2, 1, []) :: (605, .iadd, 1, []) :: (606, .iaload, 1, []) :: (607, .aload_n 0, 1, []) :: (608, .iload_n 3, 1, []) :: (609, .iconst 3, 1, []) :: (610, .iadd, 1, []) :: (611, .iaload, 1, []) :: (612, .aload_n 0, 1, []) :: (613, .iload_n 3, 1, []) :: (614, .iconst 4, 1, []) :: (615, .iadd, 1, []) :: (616, .iaload, 1, []) :: (617, .invokevirtual 81, 3, []) :: (620, .aload_n 2, 1, []) :: (621, .aload_n 0, 1, []) :: (622, .iload_n 3, 1, []) :: (623, .iconst 1, 1, []) :: (624, .iadd, 1, []) :: (625, .iaload, 1, []) :: (626, .aload_n 0, 1, []) :: (627, .iload_n 3, 1, []) :: (628, .iconst 2, 1, []) :: (629, .iadd, 1, []) :: (630, .iaload, 1, []) :: (631, .aload_n 0, 1, []) :: (632, .iload_n 3, 1, []) :: (633, .iconst 3, 1, []) :: (634, .iadd, 1, []) :: (635, .iaload, 1, []) :: (636, .aload_n 0, 1, []) :: (637, .iload_n 3, 1, []) :: (638, .iconst 4, 1, []) :: (639, .iadd, 1, []) :: (640, .iaload, 1, []) :: (641, .invokevirtual 85, 3, []) :: (644, .if_icmp .eq 179, 3, [823]) :: (647, .iconst 0, 1, []) :: (648, .ireturn, 1, []) :: drp 649 CL_law := rfl
set_option maxRecDepth 100000 in
theorem dw_649 : drp 649 CL_law = (649, .aload_n 1, 1, []) :: (650, .aload_n 0, 1, []) :: (651, .iload_n 3, 1, []) :: (652, .iconst 1, 1, []) :: (653, .iadd, 1, []) :: (654, .iaload, 1, []) :: (655, .i2l, 1, []) :: (656, .bipush 32, 2, []) :: (658, .lshl, 1, []) :: (659, .aload_n 0, 1, []) :: (660, .iload_n 3, 1, []) :: (661, .iconst 2, 1, []) :: (662, .iadd, 1, []) :: (663, .iaload, 1, []) :: (664, .i2l, 1, []) :: (665, .ldc2_w 86, 3, []) :: (668, .land, 1, []) :: (669, .lor, 1, []) :: (670, .invokevirtual 88, 3, []) :: (673, .aload_n 2, 1, []) :: (674, .aload_n 0, 1, []) :: (675, .iload_n 3, 1, []) :: (676, .iconst 1, 1, []) :: (677, .iadd, 1, []) :: (678, .iaload, 1, []) :: (679, .i2l, 1, []) :: (680, .bipush 32, 2, []) :: (682, .lshl, 1, []) :: (683, .aload_n 0, 1, []) :: (684, .iload_n 3, 1, []) :: (685, .iconst 2, 1, []) :: (686, .iadd, 1, []) :: (687, .iaload, 1, []) :: (688, .i2l, 1, []) :: (689, .ldc2_w 86, 3, []) :: (692, .land, 1, []) :: (693, .lor, 1, []) :: (694, .invokevirtual 92, 3, []) :: (697, .if_icmp .eq 126, 3, [823]) :: (700, .iconst 0, 1, []) :: (701, .ireturn, 1, []) :: drp 702 CL_law := rfl
set_option maxRecDepth 100000 in
theorem dw_702 : drp 702 CL_law = (702, .aload_n 1, 1, []) :: (703, .invokevirtual 93, 3, []) :: (706, .aload_n 2, 1, []) :: (707, .invokevirtual 96, 3, []) :: (710, .if_icmp .eq 113, 3, [823]) :: (713, .iconst 0, 1, []) :: (714, .ireturn, 1, []) :: drp 715 CL_law := rfl
set_option maxRecDepth 100000 in
theorem dw_715 : drp 715 CL_law = (715, .aload_n 1, 1, []) :: (716, .aload_n 0, 1, []) :: (717, .iload_n 3, 1, []) :: (718, .iconst 1, 1, []) :: (719, .iadd, 1, []) :: (720, .iaload, 1, []) :: (721, .invokevirtual 97, 3, []) :: (724, .aload_n 2, 1, []) :: (725, .aload_n 0, 1, []) :: (726, .iload_n 3, 1, []) :: (727, .iconst 1, 1, []) :: (728, .iadd, 1, []) :: (729, .iaload, 1, []) :: (730, .invokevirtual 100, 3, []) :: (733, .if_icmp .eq 90, 3, [823]) :: (736, .iconst 0, 1, []) :: (737, .ireturn, 1, []) :: drp 738 CL_law := rfl
set_option maxRecDepth 100000 in
theorem dw_738 : drp 738 CL_law = (738, .aload_n 1, 1, []) :: (739, .invokevirtual 101, 3, []) :: (742, .aload_n 2, 1, []) :: (743, .invokevirtual 104, 3, []) :: (746, .if_icmp .eq 77, 3, [823]) :: (749, .iconst 0, 1, []) :: (750, .ireturn, 1, []) :: drp 751 CL_law := rfl
set_option maxRecDepth 100000 in
theorem dw_751 : drp 751 CL_law = (751, .aload_n 1, 1, []) :: (752, .invokevirtual 105, 3, []) :: (755, .aload_n 2, 1, []) :: (756, .invokevirtual 108, 3, []) :: (759, .if_icmp .eq 64, 3, [823]) :: (762, .iconst 0, 1, []) :: (763, .ireturn, 1, []) :: drp 764 CL_law := rfl
set_option maxRecDepth 100000 in
theorem dw_764 : drp 764 CL_law = (764, .aload_n 1, 1, []) :: (765, .invokevirtual 109, 3, []) :: (768, .aload_n 2, 1, []) :: (769, .invokevirtual 112, 3, []) :: (772, .if_icmp .eq 51, 3, [823]) :: (775, .iconst 0, 1, []) :: (776, .ireturn, 1, []) :: drp 777 CL_law := rfl
set_option maxRecDepth 100000 in
theorem dw_777 : drp 777 CL_law = (777, .aload_n 1, 1, []) :: (778, .aload_n 0, 1, []) :: (779, .iload_n 3, 1, []) :: (780, .iconst 1, 1, []) :: (781, .iadd, 1, []) :: (782, .iaload, 1, []) :: (783, .invokevirtual 113, 3, []) :: (786, .aload_n 2, 1, []) :: (787, .aload_n 0, 1, []) :: (788, .iload_n 3, 1, []) :: (789, .iconst 1, 1, []) :: (790, .iadd, 1, []) :: (791, .iaload, 1, []) :: (792, .invokevirtual 116, 3, []) :: (795, .if_icmp .eq 28, 3, [823]) :: (798, .iconst 0, 1, []) :: (799, .ireturn, 1, []) :: drp 800 CL_law := rfl
set_option maxRecDepth 100000 in
theorem dw_800 : drp 800 CL_law = (800, .aload_n 1, 1, []) :: (801, .aload_n 0, 1, []) :: (802, .iload_n 3, 1, []) :: (803, .iconst 1, 1, []) :: (804, .iadd, 1, []) :: (805, .iaload, 1, []) :: (806, .invokevirtual 117, 3, []) :: (809, .aload_n 2, 1, []) :: (810, .aload_n 0, 1, []) :: (811, .iload_n 3, 1, []) :: (812, .iconst 1, 1, []) :: (813, .iadd, 1, []) :: (814, .iaload, 1, []) :: (815, .invokevirtual 120, 3, []) :: (818, .if_icmp .eq 5, 3, [823]) :: (821, .iconst 0, 1, []) :: (822, .ireturn, 1, []) :: drp 823 CL_law := rfl
theorem cw_16 (n : Nat) : lawC n 16 = none := rfl
theorem cw_17 (n : Nat) : lawC n 17 = none := rfl
theorem cw_18 (n : Nat) : lawC n 18 = some (lawI n) := rfl
theorem cw_19 (n : Nat) : lawC n 19 = none := rfl
theorem cw_20 (n : Nat) : lawC n 20 = none := rfl
theorem cw_21 (n : Nat) : lawC n 21 = none := rfl
theorem cw_22 (n : Nat) : lawC n 22 = none := rfl
theorem cw_23 (n : Nat) : lawC n 23 = none := rfl
theorem cw_26 (n : Nat) : lawC n 26 = none := rfl
theorem cw_27 (n : Nat) : lawC n 27 = none := rfl
theorem cw_28 (n : Nat) : lawC n 28 = none := rfl
theorem cw_29 (n : Nat) : lawC n 29 = none := rfl
theorem cw_31 (n : Nat) : lawC n 31 = none := rfl
theorem cw_32 (n : Nat) : lawC n 32 = none := rfl
theorem cw_148 (n : Nat) : lawC n 148 = some (lawJ n) := rfl
theorem cw_149 (n : Nat) : lawC n 149 = none := rfl
theorem cw_150 (n : Nat) : lawC n 150 = none := rfl
theorem cw_151 (n : Nat) : lawC n 151 = none := rfl
theorem cw_152 (n : Nat) : lawC n 152 = none := rfl
theorem cw_153 (n : Nat) : lawC n 153 = none := rfl
theorem cw_154 (n : Nat) : lawC n 154 = none := rfl
theorem cw_155 (n : Nat) : lawC n 155 = none := rfl
theorem cw_156 (n : Nat) : lawC n 156 = none := rfl
theorem cw_157 (n : Nat) : lawC n 157 = none := rfl
theorem cw_158 (n : Nat) : lawC n 158 = none := rfl
theorem cw_159 (n : Nat) : lawC n 159 = none := rfl
theorem cw_162 (n : Nat) : lawC n 162 = none := rfl
theorem cw_163 (n : Nat) : lawC n 163 = none := rfl
theorem cw_164 (n : Nat) : lawC n 164 = none := rfl
theorem cw_165 (n : Nat) : lawC n 165 = none := rfl
theorem cw_166 (n : Nat) : lawC n 166 = none := rfl
theorem cw_167 (n : Nat) : lawC n 167 = none := rfl
theorem cw_168 (n : Nat) : lawC n 168 = none := rfl
theorem cw_169 (n : Nat) : lawC n 169 = none := rfl
theorem cw_170 (n : Nat) : lawC n 170 = none := rfl
theorem cw_171 (n : Nat) : lawC n 171 = none := rfl
theorem cw_172 (n : Nat) : lawC n 172 = none := rfl
theorem cw_173 (n : Nat) : lawC n 173 = none := rfl
theorem cw_176 (n : Nat) : lawC n 176 = none := rfl
theorem cw_179 (n : Nat) : lawC n 179 = none := rfl
theorem cw_180 (n : Nat) : lawC n 180 = none := rfl
theorem cw_181 (n : Nat) : lawC n 181 = some (lawJ n) := rfl
theorem cw_182 (n : Nat) : lawC n 182 = none := rfl
theorem cw_183 (n : Nat) : lawC n 183 = none := rfl
theorem cw_184 (n : Nat) : lawC n 184 = none := rfl
theorem cw_185 (n : Nat) : lawC n 185 = none := rfl
theorem cw_186 (n : Nat) : lawC n 186 = none := rfl
theorem cw_187 (n : Nat) : lawC n 187 = none := rfl
theorem cw_188 (n : Nat) : lawC n 188 = none := rfl
theorem cw_189 (n : Nat) : lawC n 189 = none := rfl
theorem cw_190 (n : Nat) : lawC n 190 = none := rfl
theorem cw_191 (n : Nat) : lawC n 191 = none := rfl
theorem cw_192 (n : Nat) : lawC n 192 = none := rfl
theorem cw_193 (n : Nat) : lawC n 193 = none := rfl
theorem cw_194 (n : Nat) : lawC n 194 = none := rfl
theorem cw_195 (n : Nat) : lawC n 195 = none := rfl
theorem cw_196 (n : Nat) : lawC n 196 = none := rfl
theorem cw_197 (n : Nat) : lawC n 197 = none := rfl
theorem cw_200 (n : Nat) : lawC n 200 = none := rfl
theorem cw_201 (n : Nat) : lawC n 201 = none := rfl
theorem cw_202 (n : Nat) : lawC n 202 = none := rfl
theorem cw_203 (n : Nat) : lawC n 203 = none := rfl
theorem cw_204 (n : Nat) : lawC n 204 = none := rfl
theorem cw_205 (n : Nat) : lawC n 205 = none := rfl
theorem cw_206 (n : Nat) : lawC n 206 = none := rfl
theorem cw_207 (n : Nat) : lawC n 207 = none := rfl
theorem cw_208 (n : Nat) : lawC n 208 = none := rfl
theorem cw_209 (n : Nat) : lawC n 209 = none := rfl
theorem cw_210 (n : Nat) : lawC n 210 = none := rfl
theorem cw_211 (n : Nat) : lawC n 211 = none := rfl
theorem cw_212 (n : Nat) : lawC n 212 = none := rfl
theorem cw_213 (n : Nat) : lawC n 213 = none := rfl
theorem cw_214 (n : Nat) : lawC n 214 = none := rfl
theorem cw_215 (n : Nat) : lawC n 215 = none := rfl
theorem cw_216 (n : Nat) : lawC n 216 = none := rfl
theorem cw_219 (n : Nat) : lawC n 219 = none := rfl
theorem cw_222 (n : Nat) : lawC n 222 = none := rfl
theorem cw_223 (n : Nat) : lawC n 223 = none := rfl
theorem cw_224 (n : Nat) : lawC n 224 = some (lawJ n) := rfl
theorem cw_225 (n : Nat) : lawC n 225 = none := rfl
theorem cw_226 (n : Nat) : lawC n 226 = none := rfl
theorem cw_227 (n : Nat) : lawC n 227 = none := rfl
theorem cw_228 (n : Nat) : lawC n 228 = none := rfl
theorem cw_229 (n : Nat) : lawC n 229 = none := rfl
theorem cw_230 (n : Nat) : lawC n 230 = none := rfl
theorem cw_231 (n : Nat) : lawC n 231 = none := rfl
theorem cw_232 (n : Nat) : lawC n 232 = none := rfl
theorem cw_233 (n : Nat) : lawC n 233 = none := rfl
theorem cw_234 (n : Nat) : lawC n 234 = none := rfl
theorem cw_235 (n : Nat) : lawC n 235 = none := rfl
theorem cw_238 (n : Nat) : lawC n 238 = none := rfl
theorem cw_239 (n : Nat) : lawC n 239 = none := rfl
theorem cw_240 (n : Nat) : lawC n 240 = none := rfl
theorem cw_241 (n : Nat) : lawC n 241 = none := rfl
theorem cw_242 (n : Nat) : lawC n 242 = none := rfl
theorem cw_243 (n : Nat) : lawC n 243 = none := rfl
theorem cw_244 (n : Nat) : lawC n 244 = none := rfl
theorem cw_245 (n : Nat) : lawC n 245 = none := rfl
theorem cw_246 (n : Nat) : lawC n 246 = none := rfl
theorem cw_247 (n : Nat) : lawC n 247 = none := rfl
theorem cw_248 (n : Nat) : lawC n 248 = none := rfl
theorem cw_249 (n : Nat) : lawC n 249 = none := rfl
theorem cw_252 (n : Nat) : lawC n 252 = none := rfl
theorem cw_255 (n : Nat) : lawC n 255 = none := rfl
theorem cw_256 (n : Nat) : lawC n 256 = none := rfl
theorem cw_257 (n : Nat) : lawC n 257 = some (lawJ n) := rfl
theorem cw_258 (n : Nat) : lawC n 258 = none := rfl
theorem cw_259 (n : Nat) : lawC n 259 = none := rfl
theorem cw_260 (n : Nat) : lawC n 260 = none := rfl
theorem cw_261 (n : Nat) : lawC n 261 = none := rfl
theorem cw_262 (n : Nat) : lawC n 262 = none := rfl
theorem cw_263 (n : Nat) : lawC n 263 = none := rfl
theorem cw_264 (n : Nat) : lawC n 264 = none := rfl
theorem cw_265 (n : Nat) : lawC n 265 = none := rfl
theorem cw_266 (n : Nat) : lawC n 266 = none := rfl
theorem cw_267 (n : Nat) : lawC n 267 = none := rfl
theorem cw_268 (n : Nat) : lawC n 268 = none := rfl
theorem cw_271 (n : Nat) : lawC n 271 = none := rfl
theorem cw_272 (n : Nat) : lawC n 272 = none := rfl
theorem cw_273 (n : Nat) : lawC n 273 = none := rfl
theorem cw_274 (n : Nat) : lawC n 274 = none := rfl
theorem cw_275 (n : Nat) : lawC n 275 = none := rfl
theorem cw_276 (n : Nat) : lawC n 276 = none := rfl
theorem cw_277 (n : Nat) : lawC n 277 = none := rfl
theorem cw_278 (n : Nat) : lawC n 278 = none := rfl
theorem cw_279 (n : Nat) : lawC n 279 = none := rfl
theorem cw_280 (n : Nat) : lawC n 280 = none := rfl
theorem cw_281 (n : Nat) : lawC n 281 = none := rfl
theorem cw_282 (n : Nat) : lawC n 282 = none := rfl
theorem cw_285 (n : Nat) : lawC n 285 = none := rfl
theorem cw_288 (n : Nat) : lawC n 288 = none := rfl
theorem cw_289 (n : Nat) : lawC n 289 = none := rfl
theorem cw_290 (n : Nat) : lawC n 290 = some (lawJ n) := rfl
theorem cw_291 (n : Nat) : lawC n 291 = none := rfl
theorem cw_294 (n : Nat) : lawC n 294 = none := rfl
theorem cw_295 (n : Nat) : lawC n 295 = none := rfl
theorem cw_298 (n : Nat) : lawC n 298 = none := rfl
theorem cw_301 (n : Nat) : lawC n 301 = none := rfl
theorem cw_302 (n : Nat) : lawC n 302 = none := rfl
theorem cw_303 (n : Nat) : lawC n 303 = some (lawJ n) := rfl
theorem cw_304 (n : Nat) : lawC n 304 = none := rfl
theorem cw_307 (n : Nat) : lawC n 307 = none := rfl
theorem cw_308 (n : Nat) : lawC n 308 = none := rfl
theorem cw_311 (n : Nat) : lawC n 311 = none := rfl
theorem cw_314 (n : Nat) : lawC n 314 = none := rfl
theorem cw_315 (n : Nat) : lawC n 315 = none := rfl
theorem cw_316 (n : Nat) : lawC n 316 = some (lawJ n) := rfl
theorem cw_317 (n : Nat) : lawC n 317 = none := rfl
theorem cw_320 (n : Nat) : lawC n 320 = none := rfl
theorem cw_321 (n : Nat) : lawC n 321 = none := rfl
theorem cw_324 (n : Nat) : lawC n 324 = none := rfl
theorem cw_327 (n : Nat) : lawC n 327 = none := rfl
theorem cw_328 (n : Nat) : lawC n 328 = none := rfl
theorem cw_329 (n : Nat) : lawC n 329 = some (lawJ n) := rfl
theorem cw_330 (n : Nat) : lawC n 330 = none := rfl
theorem cw_331 (n : Nat) : lawC n 331 = none := rfl
theorem cw_332 (n : Nat) : lawC n 332 = none := rfl
theorem cw_333 (n : Nat) : lawC n 333 = none := rfl
theorem cw_334 (n : Nat) : lawC n 334 = none := rfl
theorem cw_335 (n : Nat) : lawC n 335 = none := rfl
theorem cw_336 (n : Nat) : lawC n 336 = none := rfl
theorem cw_337 (n : Nat) : lawC n 337 = none := rfl
theorem cw_338 (n : Nat) : lawC n 338 = none := rfl
theorem cw_339 (n : Nat) : lawC n 339 = none := rfl
theorem cw_340 (n : Nat) : lawC n 340 = none := rfl
theorem cw_343 (n : Nat) : lawC n 343 = none := rfl
theorem cw_344 (n : Nat) : lawC n 344 = none := rfl
theorem cw_345 (n : Nat) : lawC n 345 = none := rfl
theorem cw_346 (n : Nat) : lawC n 346 = none := rfl
theorem cw_347 (n : Nat) : lawC n 347 = none := rfl
theorem cw_348 (n : Nat) : lawC n 348 = none := rfl
theorem cw_349 (n : Nat) : lawC n 349 = none := rfl
theorem cw_350 (n : Nat) : lawC n 350 = none := rfl
theorem cw_351 (n : Nat) : lawC n 351 = none := rfl
theorem cw_352 (n : Nat) : lawC n 352 = none := rfl
theorem cw_353 (n : Nat) : lawC n 353 = none := rfl
theorem cw_354 (n : Nat) : lawC n 354 = none := rfl
theorem cw_357 (n : Nat) : lawC n 357 = none := rfl
theorem cw_360 (n : Nat) : lawC n 360 = none := rfl
theorem cw_361 (n : Nat) : lawC n 361 = none := rfl
theorem cw_362 (n : Nat) : lawC n 362 = some (lawJ n) := rfl
theorem cw_363 (n : Nat) : lawC n 363 = none := rfl
theorem cw_364 (n : Nat) : lawC n 364 = none := rfl
theorem cw_365 (n : Nat) : lawC n 365 = none := rfl
theorem cw_366 (n : Nat) : lawC n 366 = none := rfl
theorem cw_367 (n : Nat) : lawC n 367 = none := rfl
theorem cw_368 (n : Nat) : lawC n 368 = none := rfl
theorem cw_371 (n : Nat) : lawC n 371 = none := rfl
theorem cw_372 (n : Nat) : lawC n 372 = none := rfl
theorem cw_373 (n : Nat) : lawC n 373 = none := rfl
theorem cw_374 (n : Nat) : lawC n 374 = none := rfl
theorem cw_375 (n : Nat) : lawC n 375 = none := rfl
theorem cw_376 (n : Nat) : lawC n 376 = none := rfl
theorem cw_377 (n : Nat) : lawC n 377 = none := rfl
theorem cw_380 (n : Nat) : lawC n 380 = none := rfl
theorem cw_383 (n : Nat) : lawC n 383 = none := rfl
theorem cw_384 (n : Nat) : lawC n 384 = none := rfl
theorem cw_385 (n : Nat) : lawC n 385 = some (lawJ n) := rfl
theorem cw_386 (n : Nat) : lawC n 386 = none := rfl
theorem cw_387 (n : Nat) : lawC n 387 = none := rfl
theorem cw_388 (n : Nat) : lawC n 388 = none := rfl
theorem cw_389 (n : Nat) : lawC n 389 = none := rfl
theorem cw_390 (n : Nat) : lawC n 390 = none := rfl
theorem cw_391 (n : Nat) : lawC n 391 = none := rfl
theorem cw_392 (n : Nat) : lawC n 392 = none := rfl
theorem cw_393 (n : Nat) : lawC n 393 = none := rfl
theorem cw_394 (n : Nat) : lawC n 394 = none := rfl
theorem cw_395 (n : Nat) : lawC n 395 = none := rfl
theorem cw_396 (n : Nat) : lawC n 396 = none := rfl
theorem cw_399 (n : Nat) : lawC n 399 = none := rfl
theorem cw_400 (n : Nat) : lawC n 400 = none := rfl
theorem cw_401 (n : Nat) : lawC n 401 = none := rfl
theorem cw_402 (n : Nat) : lawC n 402 = none := rfl
theorem cw_403 (n : Nat) : lawC n 403 = none := rfl
theorem cw_404 (n : Nat) : lawC n 404 = none := rfl
theorem cw_405 (n : Nat) : lawC n 405 = none := rfl
theorem cw_406 (n : Nat) : lawC n 406 = none := rfl
theorem cw_407 (n : Nat) : lawC n 407 = none := rfl
theorem cw_408 (n : Nat) : lawC n 408 = none := rfl
theorem cw_409 (n : Nat) : lawC n 409 = none := rfl
theorem cw_410 (n : Nat) : lawC n 410 = none := rfl
theorem cw_413 (n : Nat) : lawC n 413 = none := rfl
theorem cw_416 (n : Nat) : lawC n 416 = none := rfl
theorem cw_417 (n : Nat) : lawC n 417 = none := rfl
theorem cw_418 (n : Nat) : lawC n 418 = some (lawJ n) := rfl
theorem cw_419 (n : Nat) : lawC n 419 = none := rfl
theorem cw_420 (n : Nat) : lawC n 420 = none := rfl
theorem cw_421 (n : Nat) : lawC n 421 = none := rfl
theorem cw_422 (n : Nat) : lawC n 422 = none := rfl
theorem cw_423 (n : Nat) : lawC n 423 = none := rfl
theorem cw_424 (n : Nat) : lawC n 424 = none := rfl
theorem cw_425 (n : Nat) : lawC n 425 = none := rfl
theorem cw_426 (n : Nat) : lawC n 426 = none := rfl
theorem cw_427 (n : Nat) : lawC n 427 = none := rfl
theorem cw_428 (n : Nat) : lawC n 428 = none := rfl
theorem cw_429 (n : Nat) : lawC n 429 = none := rfl
theorem cw_432 (n : Nat) : lawC n 432 = none := rfl
theorem cw_433 (n : Nat) : lawC n 433 = none := rfl
theorem cw_434 (n : Nat) : lawC n 434 = none := rfl
theorem cw_435 (n : Nat) : lawC n 435 = none := rfl
theorem cw_436 (n : Nat) : lawC n 436 = none := rfl
theorem cw_437 (n : Nat) : lawC n 437 = none := rfl
theorem cw_438 (n : Nat) : lawC n 438 = none := rfl
theorem cw_439 (n : Nat) : lawC n 439 = none := rfl
theorem cw_440 (n : Nat) : lawC n 440 = none := rfl
theorem cw_441 (n : Nat) : lawC n 441 = none := rfl
theorem cw_442 (n : Nat) : lawC n 442 = none := rfl
theorem cw_443 (n : Nat) : lawC n 443 = none := rfl
theorem cw_446 (n : Nat) : lawC n 446 = none := rfl
theorem cw_449 (n : Nat) : lawC n 449 = none := rfl
theorem cw_450 (n : Nat) : lawC n 450 = none := rfl
theorem cw_451 (n : Nat) : lawC n 451 = some (lawJ n) := rfl
theorem cw_452 (n : Nat) : lawC n 452 = none := rfl
theorem cw_453 (n : Nat) : lawC n 453 = none := rfl
theorem cw_454 (n : Nat) : lawC n 454 = none := rfl
theorem cw_455 (n : Nat) : lawC n 455 = none := rfl
theorem cw_456 (n : Nat) : lawC n 456 = none := rfl
theorem cw_457 (n : Nat) : lawC n 457 = none := rfl
theorem cw_460 (n : Nat) : lawC n 460 = none := rfl
theorem cw_461 (n : Nat) : lawC n 461 = none := rfl
theorem cw_462 (n : Nat) : lawC n 462 = none := rfl
theorem cw_463 (n : Nat) : lawC n 463 = none := rfl
theorem cw_464 (n : Nat) : lawC n 464 = none := rfl
theorem cw_465 (n : Nat) : lawC n 465 = none := rfl
theorem cw_466 (n : Nat) : lawC n 466 = none := rfl
theorem cw_469 (n : Nat) : lawC n 469 = none := rfl
theorem cw_472 (n : Nat) : lawC n 472 = none := rfl
theorem cw_473 (n : Nat) : lawC n 473 = none := rfl
theorem cw_474 (n : Nat) : lawC n 474 = some (lawJ n) := rfl
theorem cw_475 (n : Nat) : lawC n 475 = none := rfl
theorem cw_476 (n : Nat) : lawC n 476 = none := rfl
theorem cw_477 (n : Nat) : lawC n 477 = none := rfl
theorem cw_478 (n : Nat) : lawC n 478 = none := rfl
theorem cw_479 (n : Nat) : lawC n 479 = none := rfl
theorem cw_480 (n : Nat) : lawC n 480 = none := rfl
theorem cw_483 (n : Nat) : lawC n 483 = none := rfl
theorem cw_484 (n : Nat) : lawC n 484 = none := rfl
theorem cw_485 (n : Nat) : lawC n 485 = none := rfl
theorem cw_486 (n : Nat) : lawC n 486 = none := rfl
theorem cw_487 (n : Nat) : lawC n 487 = none := rfl
theorem cw_488 (n : Nat) : lawC n 488 = none := rfl
theorem cw_489 (n : Nat) : lawC n 489 = none := rfl
theorem cw_492 (n : Nat) : lawC n 492 = none := rfl
theorem cw_495 (n : Nat) : lawC n 495 = none := rfl
theorem cw_496 (n : Nat) : lawC n 496 = none := rfl
theorem cw_497 (n : Nat) : lawC n 497 = some (lawJ n) := rfl
theorem cw_498 (n : Nat) : lawC n 498 = none := rfl
theorem cw_499 (n : Nat) : lawC n 499 = none := rfl
theorem cw_500 (n : Nat) : lawC n 500 = none := rfl
theorem cw_501 (n : Nat) : lawC n 501 = none := rfl
theorem cw_502 (n : Nat) : lawC n 502 = none := rfl
theorem cw_503 (n : Nat) : lawC n 503 = none := rfl
theorem cw_506 (n : Nat) : lawC n 506 = none := rfl
theorem cw_507 (n : Nat) : lawC n 507 = none := rfl
theorem cw_508 (n : Nat) : lawC n 508 = none := rfl
theorem cw_509 (n : Nat) : lawC n 509 = none := rfl
theorem cw_510 (n : Nat) : lawC n 510 = none := rfl
theorem cw_511 (n : Nat) : lawC n 511 = none := rfl
theorem cw_512 (n : Nat) : lawC n 512 = none := rfl
theorem cw_515 (n : Nat) : lawC n 515 = none := rfl
theorem cw_518 (n : Nat) : lawC n 518 = none := rfl
theorem cw_519 (n : Nat) : lawC n 519 = none := rfl
theorem cw_520 (n : Nat) : lawC n 520 = some (lawJ n) := rfl
theorem cw_521 (n : Nat) : lawC n 521 = none := rfl
theorem cw_522 (n : Nat) : lawC n 522 = none := rfl
theorem cw_523 (n : Nat) : lawC n 523 = none := rfl
theorem cw_524 (n : Nat) : lawC n 524 = none := rfl
theorem cw_525 (n : Nat) : lawC n 525 = none := rfl
theorem cw_526 (n : Nat) : lawC n 526 = none := rfl
theorem cw_527 (n : Nat) : lawC n 527 = none := rfl
theorem cw_528 (n : Nat) : lawC n 528 = none := rfl
theorem cw_529 (n : Nat) : lawC n 529 = none := rfl
theorem cw_530 (n : Nat) : lawC n 530 = none := rfl
theorem cw_531 (n : Nat) : lawC n 531 = none := rfl
theorem cw_532 (n : Nat) : lawC n 532 = none := rfl
theorem cw_533 (n : Nat) : lawC n 533 = none := rfl
theorem cw_534 (n : Nat) : lawC n 534 = none := rfl
theorem cw_535 (n : Nat) : lawC n 535 = none := rfl
theorem cw_536 (n : Nat) : lawC n 536 = none := rfl
theorem cw_539 (n : Nat) : lawC n 539 = none := rfl
theorem cw_540 (n : Nat) : lawC n 540 = none := rfl
theorem cw_541 (n : Nat) : lawC n 541 = none := rfl
theorem cw_542 (n : Nat) : lawC n 542 = none := rfl
theorem cw_543 (n : Nat) : lawC n 543 = none := rfl
theorem cw_544 (n : Nat) : lawC n 544 = none := rfl
theorem cw_545 (n : Nat) : lawC n 545 = none := rfl
theorem cw_546 (n : Nat) : lawC n 546 = none := rfl
theorem cw_547 (n : Nat) : lawC n 547 = none := rfl
theorem cw_548 (n : Nat) : lawC n 548 = none := rfl
theorem cw_549 (n : Nat) : lawC n 549 = none := rfl
theorem cw_550 (n : Nat) : lawC n 550 = none := rfl
theorem cw_551 (n : Nat) : lawC n 551 = none := rfl
theorem cw_552 (n : Nat) : lawC n 552 = none := rfl
theorem cw_553 (n : Nat) : lawC n 553 = none := rfl
theorem cw_554 (n : Nat) : lawC n 554 = none := rfl
theorem cw_555 (n : Nat) : lawC n 555 = none := rfl
theorem cw_558 (n : Nat) : lawC n 558 = none := rfl
theorem cw_561 (n : Nat) : lawC n 561 = none := rfl
theorem cw_562 (n : Nat) : lawC n 562 = none := rfl
theorem cw_563 (n : Nat) : lawC n 563 = some (lawJ n) := rfl
theorem cw_564 (n : Nat) : lawC n 564 = none := rfl
theorem cw_565 (n : Nat) : lawC n 565 = none := rfl
theorem cw_566 (n : Nat) : lawC n 566 = none := rfl
theorem cw_567 (n : Nat) : lawC n 567 = none := rfl
theorem cw_568 (n : Nat) : lawC n 568 = none := rfl
theorem cw_569 (n : Nat) : lawC n 569 = none := rfl
theorem cw_570 (n : Nat) : lawC n 570 = none := rfl
theorem cw_571 (n : Nat) : lawC n 571 = none := rfl
theorem cw_572 (n : Nat) : lawC n 572 = none := rfl
theorem cw_573 (n : Nat) : lawC n 573 = none := rfl
theorem cw_574 (n : Nat) : lawC n 574 = none := rfl
theorem cw_577 (n : Nat) : lawC n 577 = none := rfl
theorem cw_578 (n : Nat) : lawC n 578 = none := rfl
theorem cw_579 (n : Nat) : lawC n 579 = none := rfl
theorem cw_580 (n : Nat) : lawC n 580 = none := rfl
theorem cw_581 (n : Nat) : lawC n 581 = none := rfl
theorem cw_582 (n : Nat) : lawC n 582 = none := rfl
theorem cw_583 (n : Nat) : lawC n 583 = none := rfl
theorem cw_584 (n : Nat) : lawC n 584 = none := rfl
theorem cw_585 (n : Nat) : lawC n 585 = none := rfl
theorem cw_586 (n : Nat) : lawC n 586 = none := rfl
theorem cw_587 (n : Nat) : lawC n 587 = none := rfl
theorem cw_588 (n : Nat) : lawC n 588 = none := rfl
theorem cw_591 (n : Nat) : lawC n 591 = none := rfl
theorem cw_594 (n : Nat) : lawC n 594 = none := rfl
theorem cw_595 (n : Nat) : lawC n 595 = none := rfl
theorem cw_596 (n : Nat) : lawC n 596 = some (lawJ n) := rfl
theorem cw_597 (n : Nat) : lawC n 597 = none := rfl
theorem cw_598 (n : Nat) : lawC n 598 = none := rfl
theorem cw_599 (n : Nat) : lawC n 599 = none := rfl
theorem cw_600 (n : Nat) : lawC n 600 = none := rfl
theorem cw_601 (n : Nat) : lawC n 601 = none := rfl
theorem cw_602 (n : Nat) : lawC n 602 = none := rfl
theorem cw_603 (n : Nat) : lawC n 603 = none := rfl
theorem cw_604 (n : Nat) : lawC n 604 = none := rfl
theorem cw_605 (n : Nat) : lawC n 605 = none := rfl
theorem cw_606 (n : Nat) : lawC n 606 = none := rfl
theorem cw_607 (n : Nat) : lawC n 607 = none := rfl
theorem cw_608 (n : Nat) : lawC n 608 = none := rfl
theorem cw_609 (n : Nat) : lawC n 609 = none := rfl
theorem cw_610 (n : Nat) : lawC n 610 = none := rfl
theorem cw_611 (n : Nat) : lawC n 611 = none := rfl
theorem cw_612 (n : Nat) : lawC n 612 = none := rfl
theorem cw_613 (n : Nat) : lawC n 613 = none := rfl
theorem cw_614 (n : Nat) : lawC n 614 = none := rfl
theorem cw_615 (n : Nat) : lawC n 615 = none := rfl
theorem cw_616 (n : Nat) : lawC n 616 = none := rfl
theorem cw_617 (n : Nat) : lawC n 617 = none := rfl
theorem cw_620 (n : Nat) : lawC n 620 = none := rfl
theorem cw_621 (n : Nat) : lawC n 621 = none := rfl
theorem cw_622 (n : Nat) : lawC n 622 = none := rfl
theorem cw_623 (n : Nat) : lawC n 623 = none := rfl
theorem cw_624 (n : Nat) : lawC n 624 = none := rfl
theorem cw_625 (n : Nat) : lawC n 625 = none := rfl
theorem cw_626 (n : Nat) : lawC n 626 = none := rfl
theorem cw_627 (n : Nat) : lawC n 627 = none := rfl
theorem cw_628 (n : Nat) : lawC n 628 = none := rfl
theorem cw_629 (n : Nat) : lawC n 629 = none := rfl
theorem cw_630 (n : Nat) : lawC n 630 = none := rfl
theorem cw_631 (n : Nat) : lawC n 631 = none := rfl
theorem cw_632 (n : Nat) : lawC n 632 = none := rfl
theorem cw_633 (n : Nat) : lawC n 633 = none := rfl
theorem cw_634 (n : Nat) : lawC n 634 = none := rfl
theorem cw_635 (n : Nat) : lawC n 635 = none := rfl
theorem cw_636 (n : Nat) : lawC n 636 = none := rfl
theorem cw_637 (n : Nat) : lawC n 637 = none := rfl
theorem cw_638 (n : Nat) : lawC n 638 = none := rfl
theorem cw_639 (n : Nat) : lawC n 639 = none := rfl
theorem cw_640 (n : Nat) : lawC n 640 = none := rfl
theorem cw_641 (n : Nat) : lawC n 641 = none := rfl
theorem cw_644 (n : Nat) : lawC n 644 = none := rfl
theorem cw_647 (n : Nat) : lawC n 647 = none := rfl
theorem cw_648 (n : Nat) : lawC n 648 = none := rfl
theorem cw_649 (n : Nat) : lawC n 649 = some (lawJ n) := rfl
theorem cw_650 (n : Nat) : lawC n 650 = none := rfl
theorem cw_651 (n : Nat) : lawC n 651 = none := rfl
theorem cw_652 (n : Nat) : lawC n 652 = none := rfl
theorem cw_653 (n : Nat) : lawC n 653 = none := rfl
theorem cw_654 (n : Nat) : lawC n 654 = none := rfl
theorem cw_655 (n : Nat) : lawC n 655 = none := rfl
theorem cw_656 (n : Nat) : lawC n 656 = none := rfl
theorem cw_658 (n : Nat) : lawC n 658 = none := rfl
theorem cw_659 (n : Nat) : lawC n 659 = none := rfl
theorem cw_660 (n : Nat) : lawC n 660 = none := rfl
theorem cw_661 (n : Nat) : lawC n 661 = none := rfl
theorem cw_662 (n : Nat) : lawC n 662 = none := rfl
theorem cw_663 (n : Nat) : lawC n 663 = none := rfl
theorem cw_664 (n : Nat) : lawC n 664 = none := rfl
theorem cw_665 (n : Nat) : lawC n 665 = none := rfl
theorem cw_668 (n : Nat) : lawC n 668 = none := rfl
theorem cw_669 (n : Nat) : lawC n 669 = none := rfl
theorem cw_670 (n : Nat) : lawC n 670 = none := rfl
theorem cw_673 (n : Nat) : lawC n 673 = none := rfl
theorem cw_674 (n : Nat) : lawC n 674 = none := rfl
theorem cw_675 (n : Nat) : lawC n 675 = none := rfl
theorem cw_676 (n : Nat) : lawC n 676 = none := rfl
theorem cw_677 (n : Nat) : lawC n 677 = none := rfl
theorem cw_678 (n : Nat) : lawC n 678 = none := rfl
theorem cw_679 (n : Nat) : lawC n 679 = none := rfl
theorem cw_680 (n : Nat) : lawC n 680 = none := rfl
theorem cw_682 (n : Nat) : lawC n 682 = none := rfl
theorem cw_683 (n : Nat) : lawC n 683 = none := rfl
theorem cw_684 (n : Nat) : lawC n 684 = none := rfl
theorem cw_685 (n : Nat) : lawC n 685 = none := rfl
theorem cw_686 (n : Nat) : lawC n 686 = none := rfl
theorem cw_687 (n : Nat) : lawC n 687 = none := rfl
theorem cw_688 (n : Nat) : lawC n 688 = none := rfl
theorem cw_689 (n : Nat) : lawC n 689 = none := rfl
theorem cw_692 (n : Nat) : lawC n 692 = none := rfl
theorem cw_693 (n : Nat) : lawC n 693 = none := rfl
theorem cw_694 (n : Nat) : lawC n 694 = none := rfl
theorem cw_697 (n : Nat) : lawC n 697 = none := rfl
theorem cw_700 (n : Nat) : lawC n 700 = none := rfl
theorem cw_701 (n : Nat) : lawC n 701 = none := rfl
theorem cw_702 (n : Nat) : lawC n 702 = some (lawJ n) := rfl
theorem cw_703 (n : Nat) : lawC n 703 = none := rfl
theorem cw_706 (n : Nat) : lawC n 706 = none := rfl
theorem cw_707 (n : Nat) : lawC n 707 = none := rfl
theorem cw_710 (n : Nat) : lawC n 710 = none := rfl
theorem cw_713 (n : Nat) : lawC n 713 = none := rfl
theorem cw_714 (n : Nat) : lawC n 714 = none := rfl
theorem cw_715 (n : Nat) : lawC n 715 = some (lawJ n) := rfl
theorem cw_716 (n : Nat) : lawC n 716 = none := rfl
theorem cw_717 (n : Nat) : lawC n 717 = none := rfl
theorem cw_718 (n : Nat) : lawC n 718 = none := rfl
theorem cw_719 (n : Nat) : lawC n 719 = none := rfl
theorem cw_720 (n : Nat) : lawC n 720 = none := rfl
theorem cw_721 (n : Nat) : lawC n 721 = none := rfl
theorem cw_724 (n : Nat) : lawC n 724 = none := rfl
theorem cw_725 (n : Nat) : lawC n 725 = none := rfl
theorem cw_726 (n : Nat) : lawC n 726 = none := rfl
theorem cw_727 (n : Nat) : lawC n 727 = none := rfl
theorem cw_728 (n : Nat) : lawC n 728 = none := rfl
theorem cw_729 (n : Nat) : lawC n 729 = none := rfl
theorem cw_730 (n : Nat) : lawC n 730 = none := rfl
theorem cw_733 (n : Nat) : lawC n 733 = none := rfl
theorem cw_736 (n : Nat) : lawC n 736 = none := rfl
theorem cw_737 (n : Nat) : lawC n 737 = none := rfl
theorem cw_738 (n : Nat) : lawC n 738 = some (lawJ n) := rfl
theorem cw_739 (n : Nat) : lawC n 739 = none := rfl
theorem cw_742 (n : Nat) : lawC n 742 = none := rfl
theorem cw_743 (n : Nat) : lawC n 743 = none := rfl
theorem cw_746 (n : Nat) : lawC n 746 = none := rfl
theorem cw_749 (n : Nat) : lawC n 749 = none := rfl
theorem cw_750 (n : Nat) : lawC n 750 = none := rfl
theorem cw_751 (n : Nat) : lawC n 751 = some (lawJ n) := rfl
theorem cw_752 (n : Nat) : lawC n 752 = none := rfl
theorem cw_755 (n : Nat) : lawC n 755 = none := rfl
theorem cw_756 (n : Nat) : lawC n 756 = none := rfl
theorem cw_759 (n : Nat) : lawC n 759 = none := rfl
theorem cw_762 (n : Nat) : lawC n 762 = none := rfl
theorem cw_763 (n : Nat) : lawC n 763 = none := rfl
theorem cw_764 (n : Nat) : lawC n 764 = some (lawJ n) := rfl
theorem cw_765 (n : Nat) : lawC n 765 = none := rfl
theorem cw_768 (n : Nat) : lawC n 768 = none := rfl
theorem cw_769 (n : Nat) : lawC n 769 = none := rfl
theorem cw_772 (n : Nat) : lawC n 772 = none := rfl
theorem cw_775 (n : Nat) : lawC n 775 = none := rfl
theorem cw_776 (n : Nat) : lawC n 776 = none := rfl
theorem cw_777 (n : Nat) : lawC n 777 = some (lawJ n) := rfl
theorem cw_778 (n : Nat) : lawC n 778 = none := rfl
theorem cw_779 (n : Nat) : lawC n 779 = none := rfl
theorem cw_780 (n : Nat) : lawC n 780 = none := rfl
theorem cw_781 (n : Nat) : lawC n 781 = none := rfl
theorem cw_782 (n : Nat) : lawC n 782 = none := rfl
theorem cw_783 (n : Nat) : lawC n 783 = none := rfl
theorem cw_786 (n : Nat) : lawC n 786 = none := rfl
theorem cw_787 (n : Nat) : lawC n 787 = none := rfl
theorem cw_788 (n : Nat) : lawC n 788 = none := rfl
theorem cw_789 (n : Nat) : lawC n 789 = none := rfl
theorem cw_790 (n : Nat) : lawC n 790 = none := rfl
theorem cw_791 (n : Nat) : lawC n 791 = none := rfl
theorem cw_792 (n : Nat) : lawC n 792 = none := rfl
theorem cw_795 (n : Nat) : lawC n 795 = none := rfl
theorem cw_798 (n : Nat) : lawC n 798 = none := rfl
theorem cw_799 (n : Nat) : lawC n 799 = none := rfl
theorem cw_800 (n : Nat) : lawC n 800 = some (lawJ n) := rfl
theorem cw_801 (n : Nat) : lawC n 801 = none := rfl
theorem cw_802 (n : Nat) : lawC n 802 = none := rfl
theorem cw_803 (n : Nat) : lawC n 803 = none := rfl
theorem cw_804 (n : Nat) : lawC n 804 = none := rfl
theorem cw_805 (n : Nat) : lawC n 805 = none := rfl
theorem cw_806 (n : Nat) : lawC n 806 = none := rfl
theorem cw_809 (n : Nat) : lawC n 809 = none := rfl
theorem cw_810 (n : Nat) : lawC n 810 = none := rfl
theorem cw_811 (n : Nat) : lawC n 811 = none := rfl
theorem cw_812 (n : Nat) : lawC n 812 = none := rfl
theorem cw_813 (n : Nat) : lawC n 813 = none := rfl
theorem cw_814 (n : Nat) : lawC n 814 = none := rfl
theorem cw_815 (n : Nat) : lawC n 815 = none := rfl
theorem cw_818 (n : Nat) : lawC n 818 = none := rfl
theorem cw_821 (n : Nat) : lawC n 821 = none := rfl
theorem cw_822 (n : Nat) : lawC n 822 = none := rfl
theorem cw_823 (n : Nat) : lawC n 823 = none := rfl
theorem cw_826 (n : Nat) : lawC n 826 = none := rfl
theorem cw_829 (n : Nat) : lawC n 829 = none := rfl
theorem cw_830 (n : Nat) : lawC n 830 = none := rfl
theorem cc_13 : ca_L_law 13 = some (3, 6, T_X6_job) := rfl
theorem cc_17 : ca_L_law 17 = some (3, 7, T_X7_job) := rfl
theorem cc_18 : ca_L_law 18 = some (4, 6, T_X6_operation) := rfl
theorem cc_22 : ca_L_law 22 = some (4, 7, T_X7_operation) := rfl
theorem cc_23 : ca_L_law 23 = some (3, 6, T_X6_change) := rfl
theorem cc_26 : ca_L_law 26 = some (3, 7, T_X7_change) := rfl
theorem cc_27 : ca_L_law 27 = some (3, 6, T_X6_swap) := rfl
theorem cc_30 : ca_L_law 30 = some (3, 7, T_X7_swap) := rfl
theorem cc_31 : ca_L_law 31 = some (1, 6, T_X6_takeBest) := rfl
theorem cc_35 : ca_L_law 35 = some (1, 7, T_X7_takeBest) := rfl
theorem cc_36 : ca_L_law 36 = some (1, 6, T_X6_improve) := rfl
theorem cc_39 : ca_L_law 39 = some (1, 7, T_X7_improve) := rfl
theorem cc_40 : ca_L_law 40 = some (1, 6, T_X6_length) := rfl
theorem cc_43 : ca_L_law 43 = some (1, 7, T_X7_length) := rfl
theorem cc_44 : ca_L_law 44 = some (3, 6, T_X6_about) := rfl
theorem cc_47 : ca_L_law 47 = some (3, 7, T_X7_about) := rfl
theorem cc_48 : ca_L_law 48 = some (2, 6, T_X6_path) := rfl
theorem cc_52 : ca_L_law 52 = some (2, 7, T_X7_path) := rfl
theorem cc_53 : ca_L_law 53 = some (3, 6, T_X6_order) := rfl
theorem cc_56 : ca_L_law 56 = some (3, 7, T_X7_order) := rfl
theorem cc_57 : ca_L_law 57 = some (3, 6, T_X6_ofJob) := rfl
theorem cc_60 : ca_L_law 60 = some (3, 7, T_X7_ofJob) := rfl
theorem cc_61 : ca_L_law 61 = some (2, 6, T_X6_count) := rfl
theorem cc_64 : ca_L_law 64 = some (2, 7, T_X7_count) := rfl
theorem cc_65 : ca_L_law 65 = some (2, 6, T_X6_bound) := rfl
theorem cc_68 : ca_L_law 68 = some (2, 7, T_X7_bound) := rfl
theorem cc_69 : ca_L_law 69 = some (2, 6, T_X6_forced2) := rfl
theorem cc_72 : ca_L_law 72 = some (2, 7, T_X7_forced) := rfl
theorem cc_73 : ca_L_law 73 = some (4, 6, T_X6_isForced) := rfl
theorem cc_76 : ca_L_law 76 = some (4, 7, T_X7_isForced) := rfl
theorem cc_77 : ca_L_law 77 = some (3, 6, T_X6_best) := rfl
theorem cc_80 : ca_L_law 80 = some (3, 7, T_X7_best) := rfl
theorem cc_81 : ca_L_law 81 = some (5, 6, T_X6_breakdown) := rfl
theorem cc_85 : ca_L_law 85 = some (5, 7, T_X7_breakdown) := rfl
theorem cc_88 : ca_L_law 88 = some (2, 6, T_X6_put) := rfl
theorem cc_92 : ca_L_law 92 = some (2, 7, T_X7_put) := rfl
theorem cc_93 : ca_L_law 93 = some (1, 6, T_X6_wipe) := rfl
theorem cc_96 : ca_L_law 96 = some (1, 7, T_X7_wipe) := rfl
theorem cc_97 : ca_L_law 97 = some (2, 6, T_X6_fault) := rfl
theorem cc_100 : ca_L_law 100 = some (2, 7, T_X7_fault) := rfl
theorem cc_101 : ca_L_law 101 = some (1, 6, T_X6_loadRoutes) := rfl
theorem cc_104 : ca_L_law 104 = some (1, 7, T_X7_loadRoutes) := rfl
theorem cc_105 : ca_L_law 105 = some (1, 6, T_X6_loadPlan) := rfl
theorem cc_108 : ca_L_law 108 = some (1, 7, T_X7_loadPlan) := rfl
theorem cc_109 : ca_L_law 109 = some (1, 6, T_X6_undo) := rfl
theorem cc_112 : ca_L_law 112 = some (1, 7, T_X7_undo) := rfl
theorem cc_113 : ca_L_law 113 = some (2, 6, T_X6_save) := rfl
theorem cc_116 : ca_L_law 116 = some (2, 7, T_X7_save) := rfl
theorem cc_117 : ca_L_law 117 = some (2, 6, T_X6_restore) := rfl
theorem cc_120 : ca_L_law 120 = some (2, 7, T_X7_restore) := rfl
