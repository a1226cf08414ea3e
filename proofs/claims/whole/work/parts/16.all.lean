/-! all the code -/
def sx_ckl : List (List (Nat × sx_I)) := [ck_0, ck_1, ck_2, ck_3, ck_4, ck_5, ck_6, ck_7, ck_8, ck_9, ck_10, ck_11, ck_12, ck_13, ck_14, ck_15, ck_16, ck_17, ck_18, ck_19, ck_20, ck_21, ck_22, ck_23, ck_24, ck_25, ck_26, ck_27, ck_28, ck_29, ck_30, ck_31, ck_32, ck_33, ck_34, ck_35, ck_36, ck_37, ck_38, ck_39, ck_40, ck_41, ck_42, ck_43, ck_44, ck_45, ck_46, ck_47, ck_48, ck_49, ck_50, ck_51, ck_52, ck_53, ck_54, ck_55, ck_56, ck_57, ck_58, ck_59, ck_60, ck_61, ck_62, ck_63, ck_64, ck_65, ck_66, ck_67, ck_68, ck_69, ck_70, ck_71, ck_72, ck_73, ck_74, ck_75, ck_76, ck_77, ck_78, ck_79, ck_80, ck_81, ck_82, ck_83, ck_84, ck_85, ck_86, ck_87, ck_88, ck_89, ck_90, ck_91, ck_92, ck_93, ck_94, ck_95, ck_96, ck_97, ck_98, ck_99, ck_100, ck_101, ck_102, ck_103, ck_104, ck_105, ck_106, ck_107, ck_108, ck_109, ck_110, ck_111, ck_112, ck_113, ck_114, ck_115, ck_116, ck_117, ck_118, ck_119, ck_120, ck_121, ck_122, ck_123, ck_124, ck_125, ck_126, ck_127, ck_128, ck_129, ck_130, ck_131, ck_132, ck_133, ck_134, ck_135, ck_136, ck_137, ck_138, ck_139, ck_140, ck_141, ck_142, ck_143, ck_144, ck_145, ck_146, ck_147, ck_148, ck_149, ck_150, ck_151, ck_152, ck_153, ck_154, ck_155, ck_156, ck_157, ck_158, ck_159, ck_160, ck_161, ck_162, ck_163, ck_164, ck_165, ck_166, ck_167, ck_168, ck_169, ck_170, ck_171, ck_172, ck_173, ck_174, ck_175, ck_176, ck_177, ck_178, ck_179, ck_180, ck_181, ck_182, ck_183, ck_184, ck_185, ck_186, ck_187, ck_188, ck_189, ck_190, ck_191, ck_192, ck_193, ck_194, ck_195, ck_196, ck_197, ck_198, ck_199, ck_200, ck_201, ck_202, ck_203, ck_204, ck_205, ck_206, ck_207, ck_208, ck_209, ck_210, ck_211, ck_212, ck_213, ck_214, ck_215, ck_216, ck_217, ck_218, ck_219, ck_220, ck_221, ck_222, ck_223, ck_224, ck_225, ck_226, ck_227]
def sx_cd (k : Nat) : Nat → sx_I := match sx_ckl[k]? with
  | some l => sx_tab l
  | none => fun _ _ _ _ => none
theorem al_0 : plainFor ym_0 = true ∧ ∀ pc, sx_Ok "ShadeCarpets$Bride" prog_2_method_1_code 4 "<init>" (Option.none : Option Jvm.ClassFile.FieldType) pc (sx_cd 0 pc) ∧ sx_Mo (sx_cd 0 pc) := ⟨by decide +kernel, fun pc => sx_tab_ok oa_0 pc⟩
theorem al_1 : plainFor ym_1 = true ∧ ∀ pc, sx_Ok "ShadeCarpets$Bride" prog_2_method_2_code 3 "coolness" (Option.some Jvm.ClassFile.FieldType.int) pc (sx_cd 1 pc) ∧ sx_Mo (sx_cd 1 pc) := ⟨by decide +kernel, fun pc => sx_tab_ok oa_1 pc⟩
theorem al_2 : plainFor ym_2 = true ∧ ∀ pc, sx_Ok "ShadeCarpets$Bride" prog_2_method_3_code 3 "fading" (Option.some Jvm.ClassFile.FieldType.int) pc (sx_cd 2 pc) ∧ sx_Mo (sx_cd 2 pc) := ⟨by decide +kernel, fun pc => sx_tab_ok oa_2 pc⟩
theorem al_3 : plainFor ym_3 = true ∧ ∀ pc, sx_Ok "ShadeCarpets$Bride" prog_2_method_4_code 3 "worth" (Option.some Jvm.ClassFile.FieldType.int) pc (sx_cd 3 pc) ∧ sx_Mo (sx_cd 3 pc) := ⟨by decide +kernel, fun pc => sx_tab_ok oa_3 pc⟩
theorem al_4 : plainFor ym_4 = true ∧ ∀ pc, sx_Ok "ShadeCarpets$Caravan" prog_3_method_1_code 4 "<init>" (Option.none : Option Jvm.ClassFile.FieldType) pc (sx_cd 4 pc) ∧ sx_Mo (sx_cd 4 pc) := ⟨by decide +kernel, fun pc => sx_tab_ok oa_4 pc⟩
theorem al_5 : plainFor ym_5 = true ∧ ∀ pc, sx_Ok "ShadeCarpets$Caravan" prog_3_method_2_code 3 "coolness" (Option.some Jvm.ClassFile.FieldType.int) pc (sx_cd 5 pc) ∧ sx_Mo (sx_cd 5 pc) := ⟨by decide +kernel, fun pc => sx_tab_ok oa_5 pc⟩
theorem al_6 : plainFor ym_6 = true ∧ ∀ pc, sx_Ok "ShadeCarpets$Caravan" prog_3_method_3_code 3 "fading" (Option.some Jvm.ClassFile.FieldType.int) pc (sx_cd 6 pc) ∧ sx_Mo (sx_cd 6 pc) := ⟨by decide +kernel, fun pc => sx_tab_ok oa_6 pc⟩
theorem al_7 : plainFor ym_7 = true ∧ ∀ pc, sx_Ok "ShadeCarpets$Caravan" prog_3_method_4_code 3 "worth" (Option.some Jvm.ClassFile.FieldType.int) pc (sx_cd 7 pc) ∧ sx_Mo (sx_cd 7 pc) := ⟨by decide +kernel, fun pc => sx_tab_ok oa_7 pc⟩
theorem al_8 : plainFor ym_8 = true ∧ ∀ pc, sx_Ok "ShadeCarpets$Carrier" prog_4_method_1_code 2 "<init>" (Option.none : Option Jvm.ClassFile.FieldType) pc (sx_cd 8 pc) ∧ sx_Mo (sx_cd 8 pc) := ⟨by decide +kernel, fun pc => sx_tab_ok oa_8 pc⟩
theorem al_9 : plainFor ym_9 = true ∧ ∀ pc, sx_Ok "ShadeCarpets$Carrier" prog_4_method_2_code 2 "become" (Option.none : Option Jvm.ClassFile.FieldType) pc (sx_cd 9 pc) ∧ sx_Mo (sx_cd 9 pc) := ⟨by decide +kernel, fun pc => sx_tab_ok oa_9 pc⟩
theorem al_10 : plainFor ym_10 = true ∧ ∀ pc, sx_Ok "ShadeCarpets$Carrier" prog_4_method_3_code 3 "start" (Option.none : Option Jvm.ClassFile.FieldType) pc (sx_cd 10 pc) ∧ sx_Mo (sx_cd 10 pc) := ⟨by decide +kernel, fun pc => sx_tab_ok oa_10 pc⟩
theorem al_11 : plainFor ym_11 = true ∧ ∀ pc, sx_Ok "ShadeCarpets$Carrier" prog_4_method_4_code 2 "fadeIn" (Option.none : Option Jvm.ClassFile.FieldType) pc (sx_cd 11 pc) ∧ sx_Mo (sx_cd 11 pc) := ⟨by decide +kernel, fun pc => sx_tab_ok oa_11 pc⟩
theorem al_12 : plainFor ym_12 = true ∧ ∀ pc, sx_Ok "ShadeCarpets$Carrier" prog_4_method_5_code 3 "leastPostThatFinds" (Option.some Jvm.ClassFile.FieldType.int) pc (sx_cd 12 pc) ∧ sx_Mo (sx_cd 12 pc) := ⟨by decide +kernel, fun pc => sx_tab_ok oa_12 pc⟩
theorem al_13 : plainFor ym_13 = true ∧ ∀ pc, sx_Ok "ShadeCarpets$Dealer" prog_5_method_1_code 4 "<init>" (Option.none : Option Jvm.ClassFile.FieldType) pc (sx_cd 13 pc) ∧ sx_Mo (sx_cd 13 pc) := ⟨by decide +kernel, fun pc => sx_tab_ok oa_13 pc⟩
theorem al_14 : plainFor ym_14 = true ∧ ∀ pc, sx_Ok "ShadeCarpets$Dealer" prog_5_method_2_code 3 "coolness" (Option.some Jvm.ClassFile.FieldType.int) pc (sx_cd 14 pc) ∧ sx_Mo (sx_cd 14 pc) := ⟨by decide +kernel, fun pc => sx_tab_ok oa_14 pc⟩
theorem al_15 : plainFor ym_15 = true ∧ ∀ pc, sx_Ok "ShadeCarpets$Dealer" prog_5_method_3_code 3 "fading" (Option.some Jvm.ClassFile.FieldType.int) pc (sx_cd 15 pc) ∧ sx_Mo (sx_cd 15 pc) := ⟨by decide +kernel, fun pc => sx_tab_ok oa_15 pc⟩
theorem al_16 : plainFor ym_16 = true ∧ ∀ pc, sx_Ok "ShadeCarpets$Dealer" prog_5_method_4_code 3 "worth" (Option.some Jvm.ClassFile.FieldType.int) pc (sx_cd 16 pc) ∧ sx_Mo (sx_cd 16 pc) := ⟨by decide +kernel, fun pc => sx_tab_ok oa_16 pc⟩
theorem al_17 : plainFor ym_17 = true ∧ ∀ pc, sx_Ok "ShadeCarpets$Granny" prog_6_method_1_code 4 "<init>" (Option.none : Option Jvm.ClassFile.FieldType) pc (sx_cd 17 pc) ∧ sx_Mo (sx_cd 17 pc) := ⟨by decide +kernel, fun pc => sx_tab_ok oa_17 pc⟩
theorem al_18 : plainFor ym_18 = true ∧ ∀ pc, sx_Ok "ShadeCarpets$Granny" prog_6_method_2_code 3 "coolness" (Option.some Jvm.ClassFile.FieldType.int) pc (sx_cd 18 pc) ∧ sx_Mo (sx_cd 18 pc) := ⟨by decide +kernel, fun pc => sx_tab_ok oa_18 pc⟩
theorem al_19 : plainFor ym_19 = true ∧ ∀ pc, sx_Ok "ShadeCarpets$Kind" prog_7_method_1_code 4 "<init>" (Option.none : Option Jvm.ClassFile.FieldType) pc (sx_cd 19 pc) ∧ sx_Mo (sx_cd 19 pc) := ⟨by decide +kernel, fun pc => sx_tab_ok oa_19 pc⟩
theorem al_20 : plainFor ym_20 = true ∧ ∀ pc, sx_Ok "ShadeCarpets$Kind" prog_7_method_2_code 3 "isUnder" (Option.some Jvm.ClassFile.FieldType.boolean) pc (sx_cd 20 pc) ∧ sx_Mo (sx_cd 20 pc) := ⟨by decide +kernel, fun pc => sx_tab_ok oa_20 pc⟩
theorem al_21 : plainFor ym_21 = true ∧ ∀ pc, sx_Ok "ShadeCarpets$Kind" prog_7_method_3_code 3 "coolness" (Option.some Jvm.ClassFile.FieldType.int) pc (sx_cd 21 pc) ∧ sx_Mo (sx_cd 21 pc) := ⟨by decide +kernel, fun pc => sx_tab_ok oa_21 pc⟩
theorem al_22 : plainFor ym_22 = true ∧ ∀ pc, sx_Ok "ShadeCarpets$Kind" prog_7_method_4_code 3 "fading" (Option.some Jvm.ClassFile.FieldType.int) pc (sx_cd 22 pc) ∧ sx_Mo (sx_cd 22 pc) := ⟨by decide +kernel, fun pc => sx_tab_ok oa_22 pc⟩
theorem al_23 : plainFor ym_23 = true ∧ ∀ pc, sx_Ok "ShadeCarpets$Kind" prog_7_method_5_code 3 "worth" (Option.some Jvm.ClassFile.FieldType.int) pc (sx_cd 23 pc) ∧ sx_Mo (sx_cd 23 pc) := ⟨by decide +kernel, fun pc => sx_tab_ok oa_23 pc⟩
theorem al_24 : plainFor ym_24 = true ∧ ∀ pc, sx_Ok "ShadeCarpets$Land" prog_8_method_1_code 3 "<init>" (Option.none : Option Jvm.ClassFile.FieldType) pc (sx_cd 24 pc) ∧ sx_Mo (sx_cd 24 pc) := ⟨by decide +kernel, fun pc => sx_tab_ok oa_24 pc⟩
theorem al_25 : plainFor ym_25 = true ∧ ∀ pc, sx_Ok "ShadeCarpets$Land" prog_8_method_2_code 3 "become" (Option.none : Option Jvm.ClassFile.FieldType) pc (sx_cd 25 pc) ∧ sx_Mo (sx_cd 25 pc) := ⟨by decide +kernel, fun pc => sx_tab_ok oa_25 pc⟩
theorem al_26 : plainFor ym_26 = true ∧ ∀ pc, sx_Ok "ShadeCarpets$Land" prog_8_method_3_code 1 "isFull" (Option.some Jvm.ClassFile.FieldType.boolean) pc (sx_cd 26 pc) ∧ sx_Mo (sx_cd 26 pc) := ⟨by decide +kernel, fun pc => sx_tab_ok oa_26 pc⟩
theorem al_27 : plainFor ym_27 = true ∧ ∀ pc, sx_Ok "ShadeCarpets$Land" prog_8_method_4_code 3 "addCarrier" (Option.some Jvm.ClassFile.FieldType.int) pc (sx_cd 27 pc) ∧ sx_Mo (sx_cd 27 pc) := ⟨by decide +kernel, fun pc => sx_tab_ok oa_27 pc⟩
theorem al_28 : plainFor ym_28 = true ∧ ∀ pc, sx_Ok "ShadeCarpets$Land" prog_8_method_5_code 3 "finds" (Option.some Jvm.ClassFile.FieldType.boolean) pc (sx_cd 28 pc) ∧ sx_Mo (sx_cd 28 pc) := ⟨by decide +kernel, fun pc => sx_tab_ok oa_28 pc⟩
theorem al_29 : plainFor ym_29 = true ∧ ∀ pc, sx_Ok "ShadeCarpets$Land" prog_8_method_6_code 3 "passHour" (Option.some Jvm.ClassFile.FieldType.boolean) pc (sx_cd 29 pc) ∧ sx_Mo (sx_cd 29 pc) := ⟨by decide +kernel, fun pc => sx_tab_ok oa_29 pc⟩
theorem al_30 : plainFor ym_30 = true ∧ ∀ pc, sx_Ok "ShadeCarpets$Land" prog_8_method_7_code 2 "letAnHourGo" (Option.none : Option Jvm.ClassFile.FieldType) pc (sx_cd 30 pc) ∧ sx_Mo (sx_cd 30 pc) := ⟨by decide +kernel, fun pc => sx_tab_ok oa_30 pc⟩
theorem al_31 : plainFor ym_31 = true ∧ ∀ pc, sx_Ok "ShadeCarpets$Land" prog_8_method_8_code 2 "worthWhereItIs" (Option.some Jvm.ClassFile.FieldType.int) pc (sx_cd 31 pc) ∧ sx_Mo (sx_cd 31 pc) := ⟨by decide +kernel, fun pc => sx_tab_ok oa_31 pc⟩
theorem al_32 : plainFor ym_32 = true ∧ ∀ pc, sx_Ok "ShadeCarpets$Land" prog_8_method_9_code 4 "carriersAt" (Option.some Jvm.ClassFile.FieldType.int) pc (sx_cd 32 pc) ∧ sx_Mo (sx_cd 32 pc) := ⟨by decide +kernel, fun pc => sx_tab_ok oa_32 pc⟩
theorem al_33 : plainFor ym_33 = true ∧ ∀ pc, sx_Ok "ShadeCarpets$Land" prog_8_method_10_code 3 "shadeOfAll" (Option.some Jvm.ClassFile.FieldType.int) pc (sx_cd 33 pc) ∧ sx_Mo (sx_cd 33 pc) := ⟨by decide +kernel, fun pc => sx_tab_ok oa_33 pc⟩
theorem al_34 : plainFor ym_34 = true ∧ ∀ pc, sx_Ok "ShadeCarpets$Land" prog_8_method_11_code 3 "cashOfAll" (Option.some Jvm.ClassFile.FieldType.int) pc (sx_cd 34 pc) ∧ sx_Mo (sx_cd 34 pc) := ⟨by decide +kernel, fun pc => sx_tab_ok oa_34 pc⟩
theorem al_35 : plainFor ym_35 = true ∧ ∀ pc, sx_Ok "ShadeCarpets$Land" prog_8_method_12_code 3 "withShade" (Option.some Jvm.ClassFile.FieldType.int) pc (sx_cd 35 pc) ∧ sx_Mo (sx_cd 35 pc) := ⟨by decide +kernel, fun pc => sx_tab_ok oa_35 pc⟩
theorem al_36 : plainFor ym_36 = true ∧ ∀ pc, sx_Ok "ShadeCarpets$Land" prog_8_method_13_code 3 "withPost" (Option.some Jvm.ClassFile.FieldType.int) pc (sx_cd 36 pc) ∧ sx_Mo (sx_cd 36 pc) := ⟨by decide +kernel, fun pc => sx_tab_ok oa_36 pc⟩
theorem al_37 : plainFor ym_37 = true ∧ ∀ pc, sx_Ok "ShadeCarpets$Land" prog_8_method_14_code 3 "pricesOfAll" (Option.some Jvm.ClassFile.FieldType.int) pc (sx_cd 37 pc) ∧ sx_Mo (sx_cd 37 pc) := ⟨by decide +kernel, fun pc => sx_tab_ok oa_37 pc⟩
theorem al_38 : plainFor ym_38 = true ∧ ∀ pc, sx_Ok "ShadeCarpets$Priest" prog_9_method_1_code 4 "<init>" (Option.none : Option Jvm.ClassFile.FieldType) pc (sx_cd 38 pc) ∧ sx_Mo (sx_cd 38 pc) := ⟨by decide +kernel, fun pc => sx_tab_ok oa_38 pc⟩
theorem al_39 : plainFor ym_39 = true ∧ ∀ pc, sx_Ok "ShadeCarpets$Priest" prog_9_method_2_code 3 "coolness" (Option.some Jvm.ClassFile.FieldType.int) pc (sx_cd 39 pc) ∧ sx_Mo (sx_cd 39 pc) := ⟨by decide +kernel, fun pc => sx_tab_ok oa_39 pc⟩
theorem al_40 : plainFor ym_40 = true ∧ ∀ pc, sx_Ok "ShadeCarpets$Priest" prog_9_method_3_code 3 "worth" (Option.some Jvm.ClassFile.FieldType.int) pc (sx_cd 40 pc) ∧ sx_Mo (sx_cd 40 pc) := ⟨by decide +kernel, fun pc => sx_tab_ok oa_40 pc⟩
theorem al_41 : plainFor ym_41 = true ∧ ∀ pc, sx_Ok "ShadeCarpets$Sheet" prog_10_method_1_code 1 "<init>" (Option.none : Option Jvm.ClassFile.FieldType) pc (sx_cd 41 pc) ∧ sx_Mo (sx_cd 41 pc) := ⟨by decide +kernel, fun pc => sx_tab_ok oa_41 pc⟩
theorem al_42 : plainFor ym_42 = true ∧ ∀ pc, sx_Ok "ShadeCarpets$Sheet" prog_10_method_2_code 1 "isMissing" (Option.some Jvm.ClassFile.FieldType.boolean) pc (sx_cd 42 pc) ∧ sx_Mo (sx_cd 42 pc) := ⟨by decide +kernel, fun pc => sx_tab_ok oa_42 pc⟩
theorem al_43 : plainFor ym_43 = true ∧ ∀ pc, sx_Ok "ShadeCarpets$Sheet" prog_10_method_3_code 3 "layOut" (Option.none : Option Jvm.ClassFile.FieldType) pc (sx_cd 43 pc) ∧ sx_Mo (sx_cd 43 pc) := ⟨by decide +kernel, fun pc => sx_tab_ok oa_43 pc⟩
theorem al_44 : plainFor ym_44 = true ∧ ∀ pc, sx_Ok "ShadeCarpets$Sheet" prog_10_method_4_code 3 "lowestBits" (Option.some Jvm.ClassFile.FieldType.long) pc (sx_cd 44 pc) ∧ sx_Mo (sx_cd 44 pc) := ⟨by decide +kernel, fun pc => sx_tab_ok oa_44 pc⟩
theorem al_45 : plainFor ym_45 = true ∧ ∀ pc, sx_Ok "ShadeCarpets$Sheet" prog_10_method_5_code 3 "hasRun" (Option.some Jvm.ClassFile.FieldType.boolean) pc (sx_cd 45 pc) ∧ sx_Mo (sx_cd 45 pc) := ⟨by decide +kernel, fun pc => sx_tab_ok oa_45 pc⟩
theorem al_46 : plainFor ym_46 = true ∧ ∀ pc, sx_Ok "ShadeCarpets$Tape" prog_11_method_1_code 1 "<init>" (Option.none : Option Jvm.ClassFile.FieldType) pc (sx_cd 46 pc) ∧ sx_Mo (sx_cd 46 pc) := ⟨by decide +kernel, fun pc => sx_tab_ok oa_46 pc⟩
theorem al_47 : plainFor ym_47 = true ∧ ∀ pc, sx_Ok "ShadeCarpets$Tape" prog_11_method_2_code 2 "append" (Option.none : Option Jvm.ClassFile.FieldType) pc (sx_cd 47 pc) ∧ sx_Mo (sx_cd 47 pc) := ⟨by decide +kernel, fun pc => sx_tab_ok oa_47 pc⟩
theorem al_48 : plainFor ym_48 = true ∧ ∀ pc, sx_Ok "ShadeCarpets$Tape" prog_11_method_3_code 4 "tellTo" (Option.some Jvm.ClassFile.FieldType.int) pc (sx_cd 48 pc) ∧ sx_Mo (sx_cd 48 pc) := ⟨by decide +kernel, fun pc => sx_tab_ok oa_48 pc⟩
theorem al_49 : plainFor ym_49 = true ∧ ∀ pc, sx_Ok "ShadeCarpets$Tape" prog_11_method_4_code 4 "takeItem" (Option.some Jvm.ClassFile.FieldType.boolean) pc (sx_cd 49 pc) ∧ sx_Mo (sx_cd 49 pc) := ⟨by decide +kernel, fun pc => sx_tab_ok oa_49 pc⟩
theorem al_50 : plainFor ym_50 = true ∧ ∀ pc, sx_Ok "ShadeCarpets$Tape" prog_11_method_5_code 4 "takeCarrier" (Option.some Jvm.ClassFile.FieldType.boolean) pc (sx_cd 50 pc) ∧ sx_Mo (sx_cd 50 pc) := ⟨by decide +kernel, fun pc => sx_tab_ok oa_50 pc⟩
theorem al_51 : plainFor ym_51 = true ∧ ∀ pc, sx_Ok "ShadeCarpets$Tape" prog_11_method_6_code 2 "takeTraits" (Option.some Jvm.ClassFile.FieldType.boolean) pc (sx_cd 51 pc) ∧ sx_Mo (sx_cd 51 pc) := ⟨by decide +kernel, fun pc => sx_tab_ok oa_51 pc⟩
theorem al_52 : plainFor ym_52 = true ∧ ∀ pc, sx_Ok "ShadeCarpets$Tape" prog_11_method_7_code 4 "takeOfPlace" (Option.some Jvm.ClassFile.FieldType.boolean) pc (sx_cd 52 pc) ∧ sx_Mo (sx_cd 52 pc) := ⟨by decide +kernel, fun pc => sx_tab_ok oa_52 pc⟩
theorem al_53 : plainFor ym_53 = true ∧ ∀ pc, sx_Ok "ShadeCarpets$Tape" prog_11_method_8_code 2 "isNumber" (Option.some Jvm.ClassFile.FieldType.boolean) pc (sx_cd 53 pc) ∧ sx_Mo (sx_cd 53 pc) := ⟨by decide +kernel, fun pc => sx_tab_ok oa_53 pc⟩
theorem al_54 : plainFor ym_54 = true ∧ ∀ pc, sx_Ok "ShadeCarpets$Tape" prog_11_method_9_code 3 "isWord" (Option.some Jvm.ClassFile.FieldType.boolean) pc (sx_cd 54 pc) ∧ sx_Mo (sx_cd 54 pc) := ⟨by decide +kernel, fun pc => sx_tab_ok oa_54 pc⟩
theorem al_55 : plainFor ym_55 = true ∧ ∀ pc, sx_Ok "ShadeCarpets$Tape" prog_11_method_10_code 1 "advance" (Option.none : Option Jvm.ClassFile.FieldType) pc (sx_cd 55 pc) ∧ sx_Mo (sx_cd 55 pc) := ⟨by decide +kernel, fun pc => sx_tab_ok oa_55 pc⟩
theorem al_56 : plainFor ym_56 = true ∧ ∀ pc, sx_Ok "ShadeCarpets$Tape" prog_11_method_11_code 1 "takeDigits" (Option.none : Option Jvm.ClassFile.FieldType) pc (sx_cd 56 pc) ∧ sx_Mo (sx_cd 56 pc) := ⟨by decide +kernel, fun pc => sx_tab_ok oa_56 pc⟩
theorem al_57 : plainFor ym_57 = true ∧ ∀ pc, sx_Ok "ShadeCarpets$Tape" prog_11_method_12_code 2 "isLetter" (Option.some Jvm.ClassFile.FieldType.boolean) pc (sx_cd 57 pc) ∧ sx_Mo (sx_cd 57 pc) := ⟨by decide +kernel, fun pc => sx_tab_ok oa_57 pc⟩
theorem al_58 : plainFor ym_58 = true ∧ ∀ pc, sx_Ok "ShadeCarpets$Tape" prog_11_method_13_code 2 "isDigit" (Option.some Jvm.ClassFile.FieldType.boolean) pc (sx_cd 58 pc) ∧ sx_Mo (sx_cd 58 pc) := ⟨by decide +kernel, fun pc => sx_tab_ok oa_58 pc⟩
theorem al_59 : plainFor ym_59 = true ∧ ∀ pc, sx_Ok "ShadeCarpets$Way" prog_12_method_1_code 2 "<init>" (Option.none : Option Jvm.ClassFile.FieldType) pc (sx_cd 59 pc) ∧ sx_Mo (sx_cd 59 pc) := ⟨by decide +kernel, fun pc => sx_tab_ok oa_59 pc⟩
theorem al_60 : plainFor ym_60 = true ∧ ∀ pc, sx_Ok "ShadeCarpets$Way" prog_12_method_2_code 6 "begin" (Option.none : Option Jvm.ClassFile.FieldType) pc (sx_cd 60 pc) ∧ sx_Mo (sx_cd 60 pc) := ⟨by decide +kernel, fun pc => sx_tab_ok oa_60 pc⟩
theorem al_61 : plainFor ym_61 = true ∧ ∀ pc, sx_Ok "ShadeCarpets$Way" prog_12_method_3_code 2 "spare" (Option.none : Option Jvm.ClassFile.FieldType) pc (sx_cd 61 pc) ∧ sx_Mo (sx_cd 61 pc) := ⟨by decide +kernel, fun pc => sx_tab_ok oa_61 pc⟩
theorem al_62 : plainFor ym_62 = true ∧ ∀ pc, sx_Ok "ShadeCarpets$Way" prog_12_method_4_code 2 "passHour" (Option.none : Option Jvm.ClassFile.FieldType) pc (sx_cd 62 pc) ∧ sx_Mo (sx_cd 62 pc) := ⟨by decide +kernel, fun pc => sx_tab_ok oa_62 pc⟩
theorem al_63 : plainFor ym_63 = true ∧ ∀ pc, sx_Ok "ShadeCarpets$Way" prog_12_method_5_code 3 "hoursTo" (Option.some Jvm.ClassFile.FieldType.int) pc (sx_cd 63 pc) ∧ sx_Mo (sx_cd 63 pc) := ⟨by decide +kernel, fun pc => sx_tab_ok oa_63 pc⟩
theorem al_64 : plainFor ym_64 = true ∧ ∀ pc, sx_Ok "ShadeCarpets$Way" prog_12_method_6_code 5 "seekBest" (Option.none : Option Jvm.ClassFile.FieldType) pc (sx_cd 64 pc) ∧ sx_Mo (sx_cd 64 pc) := ⟨by decide +kernel, fun pc => sx_tab_ok oa_64 pc⟩
theorem al_65 : plainFor ym_65 = true ∧ ∀ pc, sx_Ok "ShadeCarpets$Way" prog_12_method_7_code 4 "weigh" (Option.none : Option Jvm.ClassFile.FieldType) pc (sx_cd 65 pc) ∧ sx_Mo (sx_cd 65 pc) := ⟨by decide +kernel, fun pc => sx_tab_ok oa_65 pc⟩
theorem al_66 : plainFor ym_66 = true ∧ ∀ pc, sx_Ok "ShadeCarpets" prog_1_method_1_code 5 "<init>" (Option.none : Option Jvm.ClassFile.FieldType) pc (sx_cd 66 pc) ∧ sx_Mo (sx_cd 66 pc) := ⟨by decide +kernel, fun pc => sx_tab_ok oa_66 pc⟩
theorem al_67 : plainFor ym_67 = true ∧ ∀ pc, sx_Ok "ShadeCarpets" prog_1_method_2_code 5 "place" (Option.some Jvm.ClassFile.FieldType.int) pc (sx_cd 67 pc) ∧ sx_Mo (sx_cd 67 pc) := ⟨by decide +kernel, fun pc => sx_tab_ok oa_67 pc⟩
theorem al_68 : plainFor ym_68 = true ∧ ∀ pc, sx_Ok "ShadeCarpets" prog_1_method_3_code 3 "placeOf" (Option.some Jvm.ClassFile.FieldType.int) pc (sx_cd 68 pc) ∧ sx_Mo (sx_cd 68 pc) := ⟨by decide +kernel, fun pc => sx_tab_ok oa_68 pc⟩
theorem al_69 : plainFor ym_69 = true ∧ ∀ pc, sx_Ok "ShadeCarpets" prog_1_method_4_code 3 "clouds" (Option.some Jvm.ClassFile.FieldType.int) pc (sx_cd 69 pc) ∧ sx_Mo (sx_cd 69 pc) := ⟨by decide +kernel, fun pc => sx_tab_ok oa_69 pc⟩
theorem al_70 : plainFor ym_70 = true ∧ ∀ pc, sx_Ok "ShadeCarpets" prog_1_method_5_code 2 "heat" (Option.some Jvm.ClassFile.FieldType.int) pc (sx_cd 70 pc) ∧ sx_Mo (sx_cd 70 pc) := ⟨by decide +kernel, fun pc => sx_tab_ok oa_70 pc⟩
theorem al_71 : plainFor ym_71 = true ∧ ∀ pc, sx_Ok "ShadeCarpets" prog_1_method_6_code 3 "carrier" (Option.some Jvm.ClassFile.FieldType.int) pc (sx_cd 71 pc) ∧ sx_Mo (sx_cd 71 pc) := ⟨by decide +kernel, fun pc => sx_tab_ok oa_71 pc⟩
theorem al_72 : plainFor ym_72 = true ∧ ∀ pc, sx_Ok "ShadeCarpets" prog_1_method_7_code 4 "of" (Option.some Jvm.ClassFile.FieldType.int) pc (sx_cd 72 pc) ∧ sx_Mo (sx_cd 72 pc) := ⟨by decide +kernel, fun pc => sx_tab_ok oa_72 pc⟩
theorem al_73 : plainFor ym_73 = true ∧ ∀ pc, sx_Ok "ShadeCarpets" prog_1_method_8_code 6 "set" (Option.some Jvm.ClassFile.FieldType.int) pc (sx_cd 73 pc) ∧ sx_Mo (sx_cd 73 pc) := ⟨by decide +kernel, fun pc => sx_tab_ok oa_73 pc⟩
theorem al_74 : plainFor ym_74 = true ∧ ∀ pc, sx_Ok "ShadeCarpets" prog_1_method_9_code 5 "turn" (Option.some Jvm.ClassFile.FieldType.int) pc (sx_cd 74 pc) ∧ sx_Mo (sx_cd 74 pc) := ⟨by decide +kernel, fun pc => sx_tab_ok oa_74 pc⟩
theorem al_75 : plainFor ym_75 = true ∧ ∀ pc, sx_Ok "ShadeCarpets" prog_1_method_10_code 4 "as" (Option.some Jvm.ClassFile.FieldType.int) pc (sx_cd 75 pc) ∧ sx_Mo (sx_cd 75 pc) := ⟨by decide +kernel, fun pc => sx_tab_ok oa_75 pc⟩
theorem al_76 : plainFor ym_76 = true ∧ ∀ pc, sx_Ok "ShadeCarpets" prog_1_method_11_code 4 "go" (Option.some Jvm.ClassFile.FieldType.int) pc (sx_cd 76 pc) ∧ sx_Mo (sx_cd 76 pc) := ⟨by decide +kernel, fun pc => sx_tab_ok oa_76 pc⟩
theorem al_77 : plainFor ym_77 = true ∧ ∀ pc, sx_Ok "ShadeCarpets" prog_1_method_12_code 4 "sell" (Option.some Jvm.ClassFile.FieldType.int) pc (sx_cd 77 pc) ∧ sx_Mo (sx_cd 77 pc) := ⟨by decide +kernel, fun pc => sx_tab_ok oa_77 pc⟩
theorem al_78 : plainFor ym_78 = true ∧ ∀ pc, sx_Ok "ShadeCarpets" prog_1_method_13_code 3 "hours" (Option.some Jvm.ClassFile.FieldType.int) pc (sx_cd 78 pc) ∧ sx_Mo (sx_cd 78 pc) := ⟨by decide +kernel, fun pc => sx_tab_ok oa_78 pc⟩
theorem al_79 : plainFor ym_79 = true ∧ ∀ pc, sx_Ok "ShadeCarpets" prog_1_method_14_code 2 "now" (Option.some Jvm.ClassFile.FieldType.int) pc (sx_cd 79 pc) ∧ sx_Mo (sx_cd 79 pc) := ⟨by decide +kernel, fun pc => sx_tab_ok oa_79 pc⟩
theorem al_80 : plainFor ym_80 = true ∧ ∀ pc, sx_Ok "ShadeCarpets" prog_1_method_15_code 4 "on" (Option.some Jvm.ClassFile.FieldType.int) pc (sx_cd 80 pc) ∧ sx_Mo (sx_cd 80 pc) := ⟨by decide +kernel, fun pc => sx_tab_ok oa_80 pc⟩
theorem al_81 : plainFor ym_81 = true ∧ ∀ pc, sx_Ok "ShadeCarpets" prog_1_method_16_code 3 "found" (Option.some Jvm.ClassFile.FieldType.int) pc (sx_cd 81 pc) ∧ sx_Mo (sx_cd 81 pc) := ⟨by decide +kernel, fun pc => sx_tab_ok oa_81 pc⟩
theorem al_82 : plainFor ym_82 = true ∧ ∀ pc, sx_Ok "ShadeCarpets" prog_1_method_17_code 5 "firstFound" (Option.some Jvm.ClassFile.FieldType.int) pc (sx_cd 82 pc) ∧ sx_Mo (sx_cd 82 pc) := ⟨by decide +kernel, fun pc => sx_tab_ok oa_82 pc⟩
theorem al_83 : plainFor ym_83 = true ∧ ∀ pc, sx_Ok "ShadeCarpets" prog_1_method_18_code 4 "soonest" (Option.some Jvm.ClassFile.FieldType.int) pc (sx_cd 83 pc) ∧ sx_Mo (sx_cd 83 pc) := ⟨by decide +kernel, fun pc => sx_tab_ok oa_83 pc⟩
theorem al_84 : plainFor ym_84 = true ∧ ∀ pc, sx_Ok "ShadeCarpets" prog_1_method_19_code 4 "reach" (Option.some Jvm.ClassFile.FieldType.int) pc (sx_cd 84 pc) ∧ sx_Mo (sx_cd 84 pc) := ⟨by decide +kernel, fun pc => sx_tab_ok oa_84 pc⟩
theorem al_85 : plainFor ym_85 = true ∧ ∀ pc, sx_Ok "ShadeCarpets" prog_1_method_20_code 5 "cover" (Option.some Jvm.ClassFile.FieldType.int) pc (sx_cd 85 pc) ∧ sx_Mo (sx_cd 85 pc) := ⟨by decide +kernel, fun pc => sx_tab_ok oa_85 pc⟩
theorem al_86 : plainFor ym_86 = true ∧ ∀ pc, sx_Ok "ShadeCarpets" prog_1_method_21_code 3 "best" (Option.some Jvm.ClassFile.FieldType.int) pc (sx_cd 86 pc) ∧ sx_Mo (sx_cd 86 pc) := ⟨by decide +kernel, fun pc => sx_tab_ok oa_86 pc⟩
theorem al_87 : plainFor ym_87 = true ∧ ∀ pc, sx_Ok "ShadeCarpets" prog_1_method_22_code 3 "where" (Option.some Jvm.ClassFile.FieldType.int) pc (sx_cd 87 pc) ∧ sx_Mo (sx_cd 87 pc) := ⟨by decide +kernel, fun pc => sx_tab_ok oa_87 pc⟩
theorem al_88 : plainFor ym_88 = true ∧ ∀ pc, sx_Ok "ShadeCarpets" prog_1_method_23_code 8 "post" (Option.some Jvm.ClassFile.FieldType.int) pc (sx_cd 88 pc) ∧ sx_Mo (sx_cd 88 pc) := ⟨by decide +kernel, fun pc => sx_tab_ok oa_88 pc⟩
theorem al_89 : plainFor ym_89 = true ∧ ∀ pc, sx_Ok "ShadeCarpets" prog_1_method_24_code 6 "kind" (Option.some Jvm.ClassFile.FieldType.int) pc (sx_cd 89 pc) ∧ sx_Mo (sx_cd 89 pc) := ⟨by decide +kernel, fun pc => sx_tab_ok oa_89 pc⟩
theorem al_90 : plainFor ym_90 = true ∧ ∀ pc, sx_Ok "ShadeCarpets" prog_1_method_25_code 7 "depart" (Option.some Jvm.ClassFile.FieldType.int) pc (sx_cd 90 pc) ∧ sx_Mo (sx_cd 90 pc) := ⟨by decide +kernel, fun pc => sx_tab_ok oa_90 pc⟩
theorem al_91 : plainFor ym_91 = true ∧ ∀ pc, sx_Ok "ShadeCarpets" prog_1_method_26_code 4 "feed" (Option.some Jvm.ClassFile.FieldType.int) pc (sx_cd 91 pc) ∧ sx_Mo (sx_cd 91 pc) := ⟨by decide +kernel, fun pc => sx_tab_ok oa_91 pc⟩
theorem al_92 : plainFor ym_92 = true ∧ ∀ pc, sx_Ok "ShadeCarpets" prog_1_method_27_code 2 "wipe" (Option.some Jvm.ClassFile.FieldType.int) pc (sx_cd 92 pc) ∧ sx_Mo (sx_cd 92 pc) := ⟨by decide +kernel, fun pc => sx_tab_ok oa_92 pc⟩
theorem al_93 : plainFor ym_93 = true ∧ ∀ pc, sx_Ok "ShadeCarpets" prog_1_method_28_code 2 "land" (Option.some Jvm.ClassFile.FieldType.int) pc (sx_cd 93 pc) ∧ sx_Mo (sx_cd 93 pc) := ⟨by decide +kernel, fun pc => sx_tab_ok oa_93 pc⟩
theorem al_94 : plainFor ym_94 = true ∧ ∀ pc, sx_Ok "ShadeCarpets" prog_1_method_29_code 4 "sheet" (Option.some Jvm.ClassFile.FieldType.int) pc (sx_cd 94 pc) ∧ sx_Mo (sx_cd 94 pc) := ⟨by decide +kernel, fun pc => sx_tab_ok oa_94 pc⟩
theorem al_95 : plainFor ym_95 = true ∧ ∀ pc, sx_Ok "ShadeCarpets" prog_1_method_30_code 8 "write" (Option.some Jvm.ClassFile.FieldType.long) pc (sx_cd 95 pc) ∧ sx_Mo (sx_cd 95 pc) := ⟨by decide +kernel, fun pc => sx_tab_ok oa_95 pc⟩
theorem al_96 : plainFor ym_96 = true ∧ ∀ pc, sx_Ok "ShadeCarpets" prog_1_method_31_code 8 "copy" (Option.some Jvm.ClassFile.FieldType.int) pc (sx_cd 96 pc) ∧ sx_Mo (sx_cd 96 pc) := ⟨by decide +kernel, fun pc => sx_tab_ok oa_96 pc⟩
theorem al_97 : plainFor ym_97 = true ∧ ∀ pc, sx_Ok "ShadeCarpets" prog_1_method_32_code 7 "lays" (Option.some Jvm.ClassFile.FieldType.int) pc (sx_cd 97 pc) ∧ sx_Mo (sx_cd 97 pc) := ⟨by decide +kernel, fun pc => sx_tab_ok oa_97 pc⟩
theorem al_98 : plainFor ym_98 = true ∧ ∀ pc, sx_Ok "ShadeCarpets" prog_1_method_33_code 5 "book" (Option.some Jvm.ClassFile.FieldType.int) pc (sx_cd 98 pc) ∧ sx_Mo (sx_cd 98 pc) := ⟨by decide +kernel, fun pc => sx_tab_ok oa_98 pc⟩
theorem al_99 : plainFor ym_99 = true ∧ ∀ pc, sx_Ok "ShadeCarpets" prog_1_method_34_code 7 "read" (Option.some Jvm.ClassFile.FieldType.int) pc (sx_cd 99 pc) ∧ sx_Mo (sx_cd 99 pc) := ⟨by decide +kernel, fun pc => sx_tab_ok oa_99 pc⟩
theorem al_100 : plainFor ym_100 = true ∧ ∀ pc, sx_Ok "ShadeCarpets" prog_1_method_35_code 1 "image" (Option.some Jvm.ClassFile.FieldType.int) pc (sx_cd 100 pc) ∧ sx_Mo (sx_cd 100 pc) := ⟨by decide +kernel, fun pc => sx_tab_ok oa_100 pc⟩
theorem al_101 : plainFor ym_101 = true ∧ ∀ pc, sx_Ok "ShadeCarpets" prog_1_method_36_code 1 "undo" (Option.some Jvm.ClassFile.FieldType.int) pc (sx_cd 101 pc) ∧ sx_Mo (sx_cd 101 pc) := ⟨by decide +kernel, fun pc => sx_tab_ok oa_101 pc⟩
theorem al_102 : plainFor ym_102 = true ∧ ∀ pc, sx_Ok "ShadeCarpets" prog_1_method_37_code 2 "tear" (Option.some Jvm.ClassFile.FieldType.int) pc (sx_cd 102 pc) ∧ sx_Mo (sx_cd 102 pc) := ⟨by decide +kernel, fun pc => sx_tab_ok oa_102 pc⟩
theorem al_103 : plainFor ym_103 = true ∧ ∀ pc, sx_Ok "ShadeCarpets" prog_1_method_38_code 2 "count" (Option.some Jvm.ClassFile.FieldType.int) pc (sx_cd 103 pc) ∧ sx_Mo (sx_cd 103 pc) := ⟨by decide +kernel, fun pc => sx_tab_ok oa_103 pc⟩
theorem al_104 : plainFor ym_104 = true ∧ ∀ pc, sx_Ok "ShadeCarpets" prog_1_method_39_code 4 "status" (Option.some Jvm.ClassFile.FieldType.int) pc (sx_cd 104 pc) ∧ sx_Mo (sx_cd 104 pc) := ⟨by decide +kernel, fun pc => sx_tab_ok oa_104 pc⟩
theorem al_105 : plainFor ym_105 = true ∧ ∀ pc, sx_Ok "ShadeCarpets" prog_1_method_40_code 3 "finding" (Option.some Jvm.ClassFile.FieldType.int) pc (sx_cd 105 pc) ∧ sx_Mo (sx_cd 105 pc) := ⟨by decide +kernel, fun pc => sx_tab_ok oa_105 pc⟩
theorem al_106 : plainFor ym_106 = true ∧ ∀ pc, sx_Ok "ShadeCarpets" prog_1_method_41_code 2 "isCarrier" (Option.some Jvm.ClassFile.FieldType.boolean) pc (sx_cd 106 pc) ∧ sx_Mo (sx_cd 106 pc) := ⟨by decide +kernel, fun pc => sx_tab_ok oa_106 pc⟩
theorem al_107 : plainFor ym_107 = true ∧ ∀ pc, sx_Ok "ShadeCarpets" prog_1_method_42_code 1 "isPlace" (Option.some Jvm.ClassFile.FieldType.boolean) pc (sx_cd 107 pc) ∧ sx_Mo (sx_cd 107 pc) := ⟨by decide +kernel, fun pc => sx_tab_ok oa_107 pc⟩
theorem al_108 : plainFor ym_108 = true ∧ ∀ pc, sx_Ok "ShadeCarpets" prog_1_method_43_code 1 "isKind" (Option.some Jvm.ClassFile.FieldType.boolean) pc (sx_cd 108 pc) ∧ sx_Mo (sx_cd 108 pc) := ⟨by decide +kernel, fun pc => sx_tab_ok oa_108 pc⟩
theorem al_109 : plainFor ym_109 = true ∧ ∀ pc, sx_Ok "ShadeCarpets" prog_1_method_44_code 1 "isSheet" (Option.some Jvm.ClassFile.FieldType.boolean) pc (sx_cd 109 pc) ∧ sx_Mo (sx_cd 109 pc) := ⟨by decide +kernel, fun pc => sx_tab_ok oa_109 pc⟩
theorem al_110 : plainFor ym_110 = true ∧ ∀ pc, sx_Ok "ShadeCarpets" prog_1_method_45_code 2 "within" (Option.some Jvm.ClassFile.FieldType.boolean) pc (sx_cd 110 pc) ∧ sx_Mo (sx_cd 110 pc) := ⟨by decide +kernel, fun pc => sx_tab_ok oa_110 pc⟩
theorem al_111 : plainFor ym_111 = true ∧ ∀ pc, sx_Ok "ShadeCarpets" prog_1_method_46_code 2 "mayBe" (Option.some Jvm.ClassFile.FieldType.boolean) pc (sx_cd 111 pc) ∧ sx_Mo (sx_cd 111 pc) := ⟨by decide +kernel, fun pc => sx_tab_ok oa_111 pc⟩
theorem al_112 : plainFor ym_112 = true ∧ ∀ pc, sx_Ok "ShadeCarpets" prog_1_method_47_code 1 "heatAt" (Option.some Jvm.ClassFile.FieldType.int) pc (sx_cd 112 pc) ∧ sx_Mo (sx_cd 112 pc) := ⟨by decide +kernel, fun pc => sx_tab_ok oa_112 pc⟩
theorem al_113 : plainFor ym_113 = true ∧ ∀ pc, sx_Ok "ShadeCarpets" prog_1_method_48_code 2 "spread" (Option.some Jvm.ClassFile.FieldType.int) pc (sx_cd 113 pc) ∧ sx_Mo (sx_cd 113 pc) := ⟨by decide +kernel, fun pc => sx_tab_ok oa_113 pc⟩
theorem al_114 : plainFor ym_114 = true ∧ ∀ pc, sx_Ok "ShadeCarpets" prog_1_method_49_code 1 "nextTo" (Option.some Jvm.ClassFile.FieldType.int) pc (sx_cd 114 pc) ∧ sx_Mo (sx_cd 114 pc) := ⟨by decide +kernel, fun pc => sx_tab_ok oa_114 pc⟩
theorem al_115 : plainFor ym_115 = true ∧ ∀ pc, sx_Ok "ShadeCarpets" prog_1_method_50_code 3 "hoursUntilFound" (Option.some Jvm.ClassFile.FieldType.int) pc (sx_cd 115 pc) ∧ sx_Mo (sx_cd 115 pc) := ⟨by decide +kernel, fun pc => sx_tab_ok oa_115 pc⟩
theorem al_116 : plainFor ym_116 = true ∧ ∀ pc, sx_Ok "ShadeCarpetsModel" prog_14_method_1_code 2 "<init>" (Option.none : Option Jvm.ClassFile.FieldType) pc (sx_cd 116 pc) ∧ sx_Mo (sx_cd 116 pc) := ⟨by decide +kernel, fun pc => sx_tab_ok oa_116 pc⟩
theorem al_117 : plainFor ym_117 = true ∧ ∀ pc, sx_Ok "ShadeCarpetsModel" prog_14_method_2_code 6 "in" (Option.some Jvm.ClassFile.FieldType.boolean) pc (sx_cd 117 pc) ∧ sx_Mo (sx_cd 117 pc) := ⟨by decide +kernel, fun pc => sx_tab_ok oa_117 pc⟩
theorem al_118 : plainFor ym_118 = true ∧ ∀ pc, sx_Ok "ShadeCarpetsModel" prog_14_method_3_code 2 "finds" (Option.some Jvm.ClassFile.FieldType.int) pc (sx_cd 118 pc) ∧ sx_Mo (sx_cd 118 pc) := ⟨by decide +kernel, fun pc => sx_tab_ok oa_118 pc⟩
theorem al_119 : plainFor ym_119 = true ∧ ∀ pc, sx_Ok "ShadeCarpetsModel" prog_14_method_4_code 2 "saves" (Option.none : Option Jvm.ClassFile.FieldType) pc (sx_cd 119 pc) ∧ sx_Mo (sx_cd 119 pc) := ⟨by decide +kernel, fun pc => sx_tab_ok oa_119 pc⟩
theorem al_120 : plainFor ym_120 = true ∧ ∀ pc, sx_Ok "ShadeCarpetsModel" prog_14_method_5_code 2 "putsBack" (Option.none : Option Jvm.ClassFile.FieldType) pc (sx_cd 120 pc) ∧ sx_Mo (sx_cd 120 pc) := ⟨by decide +kernel, fun pc => sx_tab_ok oa_120 pc⟩
theorem al_121 : plainFor ym_121 = true ∧ ∀ pc, sx_Ok "ShadeCarpetsModel" prog_14_method_6_code 2 "laysAside" (Option.none : Option Jvm.ClassFile.FieldType) pc (sx_cd 121 pc) ∧ sx_Mo (sx_cd 121 pc) := ⟨by decide +kernel, fun pc => sx_tab_ok oa_121 pc⟩
theorem al_122 : plainFor ym_122 = true ∧ ∀ pc, sx_Ok "ShadeCarpetsModel" prog_14_method_7_code 3 "takesBack" (Option.some Jvm.ClassFile.FieldType.int) pc (sx_cd 122 pc) ∧ sx_Mo (sx_cd 122 pc) := ⟨by decide +kernel, fun pc => sx_tab_ok oa_122 pc⟩
theorem al_123 : plainFor ym_123 = true ∧ ∀ pc, sx_Ok "ShadeCarpetsModel" prog_14_method_8_code 4 "becomes" (Option.some Jvm.ClassFile.FieldType.int) pc (sx_cd 123 pc) ∧ sx_Mo (sx_cd 123 pc) := ⟨by decide +kernel, fun pc => sx_tab_ok oa_123 pc⟩
theorem al_124 : plainFor ym_124 = true ∧ ∀ pc, sx_Ok "ShadeCarpetsModel" prog_14_method_9_code 1 "isPlace" (Option.some Jvm.ClassFile.FieldType.boolean) pc (sx_cd 124 pc) ∧ sx_Mo (sx_cd 124 pc) := ⟨by decide +kernel, fun pc => sx_tab_ok oa_124 pc⟩
theorem al_125 : plainFor ym_125 = true ∧ ∀ pc, sx_Ok "ShadeCarpetsModel" prog_14_method_10_code 2 "isCarrier" (Option.some Jvm.ClassFile.FieldType.boolean) pc (sx_cd 125 pc) ∧ sx_Mo (sx_cd 125 pc) := ⟨by decide +kernel, fun pc => sx_tab_ok oa_125 pc⟩
theorem al_126 : plainFor ym_126 = true ∧ ∀ pc, sx_Ok "ShadeCarpetsModel" prog_14_method_11_code 1 "isKind" (Option.some Jvm.ClassFile.FieldType.boolean) pc (sx_cd 126 pc) ∧ sx_Mo (sx_cd 126 pc) := ⟨by decide +kernel, fun pc => sx_tab_ok oa_126 pc⟩
theorem al_127 : plainFor ym_127 = true ∧ ∀ pc, sx_Ok "ShadeCarpetsModel" prog_14_method_12_code 2 "spotOf" (Option.some Jvm.ClassFile.FieldType.int) pc (sx_cd 127 pc) ∧ sx_Mo (sx_cd 127 pc) := ⟨by decide +kernel, fun pc => sx_tab_ok oa_127 pc⟩
theorem al_128 : plainFor ym_128 = true ∧ ∀ pc, sx_Ok "ShadeCarpetsModel" prog_14_method_13_code 3 "its" (Option.some Jvm.ClassFile.FieldType.int) pc (sx_cd 128 pc) ∧ sx_Mo (sx_cd 128 pc) := ⟨by decide +kernel, fun pc => sx_tab_ok oa_128 pc⟩
theorem al_129 : plainFor ym_129 = true ∧ ∀ pc, sx_Ok "ShadeCarpetsModel" prog_14_method_14_code 5 "place" (Option.some Jvm.ClassFile.FieldType.int) pc (sx_cd 129 pc) ∧ sx_Mo (sx_cd 129 pc) := ⟨by decide +kernel, fun pc => sx_tab_ok oa_129 pc⟩
theorem al_130 : plainFor ym_130 = true ∧ ∀ pc, sx_Ok "ShadeCarpetsModel" prog_14_method_15_code 4 "thoseAt" (Option.some Jvm.ClassFile.FieldType.int) pc (sx_cd 130 pc) ∧ sx_Mo (sx_cd 130 pc) := ⟨by decide +kernel, fun pc => sx_tab_ok oa_130 pc⟩
theorem al_131 : plainFor ym_131 = true ∧ ∀ pc, sx_Ok "ShadeCarpetsModel" prog_14_method_16_code 2 "nextTo" (Option.some Jvm.ClassFile.FieldType.int) pc (sx_cd 131 pc) ∧ sx_Mo (sx_cd 131 pc) := ⟨by decide +kernel, fun pc => sx_tab_ok oa_131 pc⟩
theorem al_132 : plainFor ym_132 = true ∧ ∀ pc, sx_Ok "ShadeCarpetsModel" prog_14_method_17_code 3 "placeOf" (Option.some Jvm.ClassFile.FieldType.int) pc (sx_cd 132 pc) ∧ sx_Mo (sx_cd 132 pc) := ⟨by decide +kernel, fun pc => sx_tab_ok oa_132 pc⟩
theorem al_133 : plainFor ym_133 = true ∧ ∀ pc, sx_Ok "ShadeCarpetsModel" prog_14_method_18_code 2 "clouds" (Option.some Jvm.ClassFile.FieldType.int) pc (sx_cd 133 pc) ∧ sx_Mo (sx_cd 133 pc) := ⟨by decide +kernel, fun pc => sx_tab_ok oa_133 pc⟩
theorem al_134 : plainFor ym_134 = true ∧ ∀ pc, sx_Ok "ShadeCarpetsModel" prog_14_method_19_code 2 "heatOf" (Option.some Jvm.ClassFile.FieldType.int) pc (sx_cd 134 pc) ∧ sx_Mo (sx_cd 134 pc) := ⟨by decide +kernel, fun pc => sx_tab_ok oa_134 pc⟩
theorem al_135 : plainFor ym_135 = true ∧ ∀ pc, sx_Ok "ShadeCarpetsModel" prog_14_method_20_code 2 "heat" (Option.some Jvm.ClassFile.FieldType.int) pc (sx_cd 135 pc) ∧ sx_Mo (sx_cd 135 pc) := ⟨by decide +kernel, fun pc => sx_tab_ok oa_135 pc⟩
theorem al_136 : plainFor ym_136 = true ∧ ∀ pc, sx_Ok "ShadeCarpetsModel" prog_14_method_21_code 5 "adds" (Option.some Jvm.ClassFile.FieldType.int) pc (sx_cd 136 pc) ∧ sx_Mo (sx_cd 136 pc) := ⟨by decide +kernel, fun pc => sx_tab_ok oa_136 pc⟩
theorem al_137 : plainFor ym_137 = true ∧ ∀ pc, sx_Ok "ShadeCarpetsModel" prog_14_method_22_code 3 "carrier" (Option.some Jvm.ClassFile.FieldType.int) pc (sx_cd 137 pc) ∧ sx_Mo (sx_cd 137 pc) := ⟨by decide +kernel, fun pc => sx_tab_ok oa_137 pc⟩
theorem al_138 : plainFor ym_138 = true ∧ ∀ pc, sx_Ok "ShadeCarpetsModel" prog_14_method_23_code 1 "atLeastNothing" (Option.some Jvm.ClassFile.FieldType.int) pc (sx_cd 138 pc) ∧ sx_Mo (sx_cd 138 pc) := ⟨by decide +kernel, fun pc => sx_tab_ok oa_138 pc⟩
theorem al_139 : plainFor ym_139 = true ∧ ∀ pc, sx_Ok "ShadeCarpetsModel" prog_14_method_24_code 6 "coolOf" (Option.some Jvm.ClassFile.FieldType.int) pc (sx_cd 139 pc) ∧ sx_Mo (sx_cd 139 pc) := ⟨by decide +kernel, fun pc => sx_tab_ok oa_139 pc⟩
theorem al_140 : plainFor ym_140 = true ∧ ∀ pc, sx_Ok "ShadeCarpetsModel" prog_14_method_25_code 4 "fadesOf" (Option.some Jvm.ClassFile.FieldType.int) pc (sx_cd 140 pc) ∧ sx_Mo (sx_cd 140 pc) := ⟨by decide +kernel, fun pc => sx_tab_ok oa_140 pc⟩
theorem al_141 : plainFor ym_141 = true ∧ ∀ pc, sx_Ok "ShadeCarpetsModel" prog_14_method_26_code 5 "valueOf" (Option.some Jvm.ClassFile.FieldType.int) pc (sx_cd 141 pc) ∧ sx_Mo (sx_cd 141 pc) := ⟨by decide +kernel, fun pc => sx_tab_ok oa_141 pc⟩
theorem al_142 : plainFor ym_142 = true ∧ ∀ pc, sx_Ok "ShadeCarpetsModel" prog_14_method_27_code 6 "isFoundAt" (Option.some Jvm.ClassFile.FieldType.boolean) pc (sx_cd 142 pc) ∧ sx_Mo (sx_cd 142 pc) := ⟨by decide +kernel, fun pc => sx_tab_ok oa_142 pc⟩
theorem al_143 : plainFor ym_143 = true ∧ ∀ pc, sx_Ok "ShadeCarpetsModel" prog_14_method_28_code 2 "isFoundNow" (Option.some Jvm.ClassFile.FieldType.boolean) pc (sx_cd 143 pc) ∧ sx_Mo (sx_cd 143 pc) := ⟨by decide +kernel, fun pc => sx_tab_ok oa_143 pc⟩
theorem al_144 : plainFor ym_144 = true ∧ ∀ pc, sx_Ok "ShadeCarpetsModel" prog_14_method_29_code 2 "valueNow" (Option.some Jvm.ClassFile.FieldType.int) pc (sx_cd 144 pc) ∧ sx_Mo (sx_cd 144 pc) := ⟨by decide +kernel, fun pc => sx_tab_ok oa_144 pc⟩
theorem al_145 : plainFor ym_145 = true ∧ ∀ pc, sx_Ok "ShadeCarpetsModel" prog_14_method_30_code 3 "of" (Option.some Jvm.ClassFile.FieldType.int) pc (sx_cd 145 pc) ∧ sx_Mo (sx_cd 145 pc) := ⟨by decide +kernel, fun pc => sx_tab_ok oa_145 pc⟩
theorem al_146 : plainFor ym_146 = true ∧ ∀ pc, sx_Ok "ShadeCarpetsModel" prog_14_method_31_code 5 "set" (Option.some Jvm.ClassFile.FieldType.int) pc (sx_cd 146 pc) ∧ sx_Mo (sx_cd 146 pc) := ⟨by decide +kernel, fun pc => sx_tab_ok oa_146 pc⟩
theorem al_147 : plainFor ym_147 = true ∧ ∀ pc, sx_Ok "ShadeCarpetsModel" prog_14_method_32_code 3 "turn" (Option.some Jvm.ClassFile.FieldType.int) pc (sx_cd 147 pc) ∧ sx_Mo (sx_cd 147 pc) := ⟨by decide +kernel, fun pc => sx_tab_ok oa_147 pc⟩
theorem al_148 : plainFor ym_148 = true ∧ ∀ pc, sx_Ok "ShadeCarpetsModel" prog_14_method_33_code 2 "isUnder" (Option.some Jvm.ClassFile.FieldType.boolean) pc (sx_cd 148 pc) ∧ sx_Mo (sx_cd 148 pc) := ⟨by decide +kernel, fun pc => sx_tab_ok oa_148 pc⟩
theorem al_149 : plainFor ym_149 = true ∧ ∀ pc, sx_Ok "ShadeCarpetsModel" prog_14_method_34_code 3 "as" (Option.some Jvm.ClassFile.FieldType.int) pc (sx_cd 149 pc) ∧ sx_Mo (sx_cd 149 pc) := ⟨by decide +kernel, fun pc => sx_tab_ok oa_149 pc⟩
theorem al_150 : plainFor ym_150 = true ∧ ∀ pc, sx_Ok "ShadeCarpetsModel" prog_14_method_35_code 3 "go" (Option.some Jvm.ClassFile.FieldType.int) pc (sx_cd 150 pc) ∧ sx_Mo (sx_cd 150 pc) := ⟨by decide +kernel, fun pc => sx_tab_ok oa_150 pc⟩
theorem al_151 : plainFor ym_151 = true ∧ ∀ pc, sx_Ok "ShadeCarpetsModel" prog_14_method_36_code 4 "sell" (Option.some Jvm.ClassFile.FieldType.int) pc (sx_cd 151 pc) ∧ sx_Mo (sx_cd 151 pc) := ⟨by decide +kernel, fun pc => sx_tab_ok oa_151 pc⟩
theorem al_152 : plainFor ym_152 = true ∧ ∀ pc, sx_Ok "ShadeCarpetsModel" prog_14_method_37_code 2 "hour" (Option.none : Option Jvm.ClassFile.FieldType) pc (sx_cd 152 pc) ∧ sx_Mo (sx_cd 152 pc) := ⟨by decide +kernel, fun pc => sx_tab_ok oa_152 pc⟩
theorem al_153 : plainFor ym_153 = true ∧ ∀ pc, sx_Ok "ShadeCarpetsModel" prog_14_method_38_code 3 "hoursGo" (Option.none : Option Jvm.ClassFile.FieldType) pc (sx_cd 153 pc) ∧ sx_Mo (sx_cd 153 pc) := ⟨by decide +kernel, fun pc => sx_tab_ok oa_153 pc⟩
theorem al_154 : plainFor ym_154 = true ∧ ∀ pc, sx_Ok "ShadeCarpetsModel" prog_14_method_39_code 4 "together" (Option.some Jvm.ClassFile.FieldType.int) pc (sx_cd 154 pc) ∧ sx_Mo (sx_cd 154 pc) := ⟨by decide +kernel, fun pc => sx_tab_ok oa_154 pc⟩
theorem al_155 : plainFor ym_155 = true ∧ ∀ pc, sx_Ok "ShadeCarpetsModel" prog_14_method_40_code 2 "hours" (Option.some Jvm.ClassFile.FieldType.int) pc (sx_cd 155 pc) ∧ sx_Mo (sx_cd 155 pc) := ⟨by decide +kernel, fun pc => sx_tab_ok oa_155 pc⟩
theorem al_156 : plainFor ym_156 = true ∧ ∀ pc, sx_Ok "ShadeCarpetsModel" prog_14_method_41_code 3 "shaded" (Option.some Jvm.ClassFile.FieldType.int) pc (sx_cd 156 pc) ∧ sx_Mo (sx_cd 156 pc) := ⟨by decide +kernel, fun pc => sx_tab_ok oa_156 pc⟩
theorem al_157 : plainFor ym_157 = true ∧ ∀ pc, sx_Ok "ShadeCarpetsModel" prog_14_method_42_code 3 "posted" (Option.some Jvm.ClassFile.FieldType.int) pc (sx_cd 157 pc) ∧ sx_Mo (sx_cd 157 pc) := ⟨by decide +kernel, fun pc => sx_tab_ok oa_157 pc⟩
theorem al_158 : plainFor ym_158 = true ∧ ∀ pc, sx_Ok "ShadeCarpetsModel" prog_14_method_43_code 2 "now" (Option.some Jvm.ClassFile.FieldType.int) pc (sx_cd 158 pc) ∧ sx_Mo (sx_cd 158 pc) := ⟨by decide +kernel, fun pc => sx_tab_ok oa_158 pc⟩
theorem al_159 : plainFor ym_159 = true ∧ ∀ pc, sx_Ok "ShadeCarpetsModel" prog_14_method_44_code 3 "on" (Option.some Jvm.ClassFile.FieldType.int) pc (sx_cd 159 pc) ∧ sx_Mo (sx_cd 159 pc) := ⟨by decide +kernel, fun pc => sx_tab_ok oa_159 pc⟩
theorem al_160 : plainFor ym_160 = true ∧ ∀ pc, sx_Ok "ShadeCarpetsModel" prog_14_method_45_code 3 "foundIn" (Option.some Jvm.ClassFile.FieldType.int) pc (sx_cd 160 pc) ∧ sx_Mo (sx_cd 160 pc) := ⟨by decide +kernel, fun pc => sx_tab_ok oa_160 pc⟩
theorem al_161 : plainFor ym_161 = true ∧ ∀ pc, sx_Ok "ShadeCarpetsModel" prog_14_method_46_code 3 "found" (Option.some Jvm.ClassFile.FieldType.int) pc (sx_cd 161 pc) ∧ sx_Mo (sx_cd 161 pc) := ⟨by decide +kernel, fun pc => sx_tab_ok oa_161 pc⟩
theorem al_162 : plainFor ym_162 = true ∧ ∀ pc, sx_Ok "ShadeCarpetsModel" prog_14_method_47_code 3 "firstFound" (Option.some Jvm.ClassFile.FieldType.int) pc (sx_cd 162 pc) ∧ sx_Mo (sx_cd 162 pc) := ⟨by decide +kernel, fun pc => sx_tab_ok oa_162 pc⟩
theorem al_163 : plainFor ym_163 = true ∧ ∀ pc, sx_Ok "ShadeCarpetsModel" prog_14_method_48_code 2 "begins" (Option.none : Option Jvm.ClassFile.FieldType) pc (sx_cd 163 pc) ∧ sx_Mo (sx_cd 163 pc) := ⟨by decide +kernel, fun pc => sx_tab_ok oa_163 pc⟩
theorem al_164 : plainFor ym_164 = true ∧ ∀ pc, sx_Ok "ShadeCarpetsModel" prog_14_method_49_code 4 "goesOn" (Option.none : Option Jvm.ClassFile.FieldType) pc (sx_cd 164 pc) ∧ sx_Mo (sx_cd 164 pc) := ⟨by decide +kernel, fun pc => sx_tab_ok oa_164 pc⟩
theorem al_165 : plainFor ym_165 = true ∧ ∀ pc, sx_Ok "ShadeCarpetsModel" prog_14_method_50_code 4 "andNext" (Option.some Jvm.ClassFile.FieldType.int) pc (sx_cd 165 pc) ∧ sx_Mo (sx_cd 165 pc) := ⟨by decide +kernel, fun pc => sx_tab_ok oa_165 pc⟩
theorem al_166 : plainFor ym_166 = true ∧ ∀ pc, sx_Ok "ShadeCarpetsModel" prog_14_method_51_code 5 "comesIn" (Option.some Jvm.ClassFile.FieldType.int) pc (sx_cd 166 pc) ∧ sx_Mo (sx_cd 166 pc) := ⟨by decide +kernel, fun pc => sx_tab_ok oa_166 pc⟩
theorem al_167 : plainFor ym_167 = true ∧ ∀ pc, sx_Ok "ShadeCarpetsModel" prog_14_method_52_code 3 "soonestOf" (Option.some Jvm.ClassFile.FieldType.int) pc (sx_cd 167 pc) ∧ sx_Mo (sx_cd 167 pc) := ⟨by decide +kernel, fun pc => sx_tab_ok oa_167 pc⟩
theorem al_168 : plainFor ym_168 = true ∧ ∀ pc, sx_Ok "ShadeCarpetsModel" prog_14_method_53_code 1 "isFar" (Option.some Jvm.ClassFile.FieldType.boolean) pc (sx_cd 168 pc) ∧ sx_Mo (sx_cd 168 pc) := ⟨by decide +kernel, fun pc => sx_tab_ok oa_168 pc⟩
theorem al_169 : plainFor ym_169 = true ∧ ∀ pc, sx_Ok "ShadeCarpetsModel" prog_14_method_54_code 4 "soonest" (Option.some Jvm.ClassFile.FieldType.int) pc (sx_cd 169 pc) ∧ sx_Mo (sx_cd 169 pc) := ⟨by decide +kernel, fun pc => sx_tab_ok oa_169 pc⟩
theorem al_170 : plainFor ym_170 = true ∧ ∀ pc, sx_Ok "ShadeCarpetsModel" prog_14_method_55_code 4 "reach" (Option.some Jvm.ClassFile.FieldType.int) pc (sx_cd 170 pc) ∧ sx_Mo (sx_cd 170 pc) := ⟨by decide +kernel, fun pc => sx_tab_ok oa_170 pc⟩
theorem al_171 : plainFor ym_171 = true ∧ ∀ pc, sx_Ok "ShadeCarpetsModel" prog_14_method_56_code 7 "cover" (Option.some Jvm.ClassFile.FieldType.int) pc (sx_cd 171 pc) ∧ sx_Mo (sx_cd 171 pc) := ⟨by decide +kernel, fun pc => sx_tab_ok oa_171 pc⟩
theorem al_172 : plainFor ym_172 = true ∧ ∀ pc, sx_Ok "ShadeCarpetsModel" prog_14_method_57_code 6 "findBest" (Option.none : Option Jvm.ClassFile.FieldType) pc (sx_cd 172 pc) ∧ sx_Mo (sx_cd 172 pc) := ⟨by decide +kernel, fun pc => sx_tab_ok oa_172 pc⟩
theorem al_173 : plainFor ym_173 = true ∧ ∀ pc, sx_Ok "ShadeCarpetsModel" prog_14_method_58_code 3 "best" (Option.some Jvm.ClassFile.FieldType.int) pc (sx_cd 173 pc) ∧ sx_Mo (sx_cd 173 pc) := ⟨by decide +kernel, fun pc => sx_tab_ok oa_173 pc⟩
theorem al_174 : plainFor ym_174 = true ∧ ∀ pc, sx_Ok "ShadeCarpetsModel" prog_14_method_59_code 3 "where" (Option.some Jvm.ClassFile.FieldType.int) pc (sx_cd 174 pc) ∧ sx_Mo (sx_cd 174 pc) := ⟨by decide +kernel, fun pc => sx_tab_ok oa_174 pc⟩
theorem al_175 : plainFor ym_175 = true ∧ ∀ pc, sx_Ok "ShadeCarpetsModel" prog_14_method_60_code 8 "post" (Option.some Jvm.ClassFile.FieldType.int) pc (sx_cd 175 pc) ∧ sx_Mo (sx_cd 175 pc) := ⟨by decide +kernel, fun pc => sx_tab_ok oa_175 pc⟩
theorem al_176 : plainFor ym_176 = true ∧ ∀ pc, sx_Ok "ShadeCarpetsModel" prog_14_method_61_code 7 "kind" (Option.some Jvm.ClassFile.FieldType.int) pc (sx_cd 176 pc) ∧ sx_Mo (sx_cd 176 pc) := ⟨by decide +kernel, fun pc => sx_tab_ok oa_176 pc⟩
theorem al_177 : plainFor ym_177 = true ∧ ∀ pc, sx_Ok "ShadeCarpetsModel" prog_14_method_62_code 8 "depart" (Option.some Jvm.ClassFile.FieldType.int) pc (sx_cd 177 pc) ∧ sx_Mo (sx_cd 177 pc) := ⟨by decide +kernel, fun pc => sx_tab_ok oa_177 pc⟩
theorem al_178 : plainFor ym_178 = true ∧ ∀ pc, sx_Ok "ShadeCarpetsModel" prog_14_method_63_code 4 "feed" (Option.some Jvm.ClassFile.FieldType.int) pc (sx_cd 178 pc) ∧ sx_Mo (sx_cd 178 pc) := ⟨by decide +kernel, fun pc => sx_tab_ok oa_178 pc⟩
theorem al_179 : plainFor ym_179 = true ∧ ∀ pc, sx_Ok "ShadeCarpetsModel" prog_14_method_64_code 2 "wipe" (Option.some Jvm.ClassFile.FieldType.int) pc (sx_cd 179 pc) ∧ sx_Mo (sx_cd 179 pc) := ⟨by decide +kernel, fun pc => sx_tab_ok oa_179 pc⟩
theorem al_180 : plainFor ym_180 = true ∧ ∀ pc, sx_Ok "ShadeCarpetsModel" prog_14_method_65_code 2 "byteAt" (Option.some Jvm.ClassFile.FieldType.int) pc (sx_cd 180 pc) ∧ sx_Mo (sx_cd 180 pc) := ⟨by decide +kernel, fun pc => sx_tab_ok oa_180 pc⟩
theorem al_181 : plainFor ym_181 = true ∧ ∀ pc, sx_Ok "ShadeCarpetsModel" prog_14_method_66_code 1 "isLetter" (Option.some Jvm.ClassFile.FieldType.boolean) pc (sx_cd 181 pc) ∧ sx_Mo (sx_cd 181 pc) := ⟨by decide +kernel, fun pc => sx_tab_ok oa_181 pc⟩
theorem al_182 : plainFor ym_182 = true ∧ ∀ pc, sx_Ok "ShadeCarpetsModel" prog_14_method_67_code 1 "isDigit" (Option.some Jvm.ClassFile.FieldType.boolean) pc (sx_cd 182 pc) ∧ sx_Mo (sx_cd 182 pc) := ⟨by decide +kernel, fun pc => sx_tab_ok oa_182 pc⟩
theorem al_183 : plainFor ym_183 = true ∧ ∀ pc, sx_Ok "ShadeCarpetsModel" prog_14_method_68_code 3 "token" (Option.none : Option Jvm.ClassFile.FieldType) pc (sx_cd 183 pc) ∧ sx_Mo (sx_cd 183 pc) := ⟨by decide +kernel, fun pc => sx_tab_ok oa_183 pc⟩
theorem al_184 : plainFor ym_184 = true ∧ ∀ pc, sx_Ok "ShadeCarpetsModel" prog_14_method_69_code 2 "must" (Option.none : Option Jvm.ClassFile.FieldType) pc (sx_cd 184 pc) ∧ sx_Mo (sx_cd 184 pc) := ⟨by decide +kernel, fun pc => sx_tab_ok oa_184 pc⟩
theorem al_185 : plainFor ym_185 = true ∧ ∀ pc, sx_Ok "ShadeCarpetsModel" prog_14_method_70_code 4 "word" (Option.some Jvm.ClassFile.FieldType.long) pc (sx_cd 185 pc) ∧ sx_Mo (sx_cd 185 pc) := ⟨by decide +kernel, fun pc => sx_tab_ok oa_185 pc⟩
theorem al_186 : plainFor ym_186 = true ∧ ∀ pc, sx_Ok "ShadeCarpetsModel" prog_14_method_71_code 6 "number" (Option.none : Option Jvm.ClassFile.FieldType) pc (sx_cd 186 pc) ∧ sx_Mo (sx_cd 186 pc) := ⟨by decide +kernel, fun pc => sx_tab_ok oa_186 pc⟩
theorem al_187 : plainFor ym_187 = true ∧ ∀ pc, sx_Ok "ShadeCarpetsModel" prog_14_method_72_code 3 "kindHere" (Option.some Jvm.ClassFile.FieldType.int) pc (sx_cd 187 pc) ∧ sx_Mo (sx_cd 187 pc) := ⟨by decide +kernel, fun pc => sx_tab_ok oa_187 pc⟩
theorem al_188 : plainFor ym_188 = true ∧ ∀ pc, sx_Ok "ShadeCarpetsModel" prog_14_method_73_code 5 "partItem" (Option.none : Option Jvm.ClassFile.FieldType) pc (sx_cd 188 pc) ∧ sx_Mo (sx_cd 188 pc) := ⟨by decide +kernel, fun pc => sx_tab_ok oa_188 pc⟩
theorem al_189 : plainFor ym_189 = true ∧ ∀ pc, sx_Ok "ShadeCarpetsModel" prog_14_method_74_code 3 "carrierItem" (Option.none : Option Jvm.ClassFile.FieldType) pc (sx_cd 189 pc) ∧ sx_Mo (sx_cd 189 pc) := ⟨by decide +kernel, fun pc => sx_tab_ok oa_189 pc⟩
theorem al_190 : plainFor ym_190 = true ∧ ∀ pc, sx_Ok "ShadeCarpetsModel" prog_14_method_75_code 4 "placeItem" (Option.none : Option Jvm.ClassFile.FieldType) pc (sx_cd 190 pc) ∧ sx_Mo (sx_cd 190 pc) := ⟨by decide +kernel, fun pc => sx_tab_ok oa_190 pc⟩
theorem al_191 : plainFor ym_191 = true ∧ ∀ pc, sx_Ok "ShadeCarpetsModel" prog_14_method_76_code 5 "item" (Option.none : Option Jvm.ClassFile.FieldType) pc (sx_cd 191 pc) ∧ sx_Mo (sx_cd 191 pc) := ⟨by decide +kernel, fun pc => sx_tab_ok oa_191 pc⟩
theorem al_192 : plainFor ym_192 = true ∧ ∀ pc, sx_Ok "ShadeCarpetsModel" prog_14_method_77_code 2 "land" (Option.some Jvm.ClassFile.FieldType.int) pc (sx_cd 192 pc) ∧ sx_Mo (sx_cd 192 pc) := ⟨by decide +kernel, fun pc => sx_tab_ok oa_192 pc⟩
theorem al_193 : plainFor ym_193 = true ∧ ∀ pc, sx_Ok "ShadeCarpetsModel" prog_14_method_78_code 1 "isOne" (Option.some Jvm.ClassFile.FieldType.boolean) pc (sx_cd 193 pc) ∧ sx_Mo (sx_cd 193 pc) := ⟨by decide +kernel, fun pc => sx_tab_ok oa_193 pc⟩
theorem al_194 : plainFor ym_194 = true ∧ ∀ pc, sx_Ok "ShadeCarpetsModel" prog_14_method_79_code 5 "sheet" (Option.some Jvm.ClassFile.FieldType.int) pc (sx_cd 194 pc) ∧ sx_Mo (sx_cd 194 pc) := ⟨by decide +kernel, fun pc => sx_tab_ok oa_194 pc⟩
theorem al_195 : plainFor ym_195 = true ∧ ∀ pc, sx_Ok "ShadeCarpetsModel" prog_14_method_80_code 3 "narrowed" (Option.some Jvm.ClassFile.FieldType.long) pc (sx_cd 195 pc) ∧ sx_Mo (sx_cd 195 pc) := ⟨by decide +kernel, fun pc => sx_tab_ok oa_195 pc⟩
theorem al_196 : plainFor ym_196 = true ∧ ∀ pc, sx_Ok "ShadeCarpetsModel" prog_14_method_81_code 2 "wrongSheet" (Option.some Jvm.ClassFile.FieldType.int) pc (sx_cd 196 pc) ∧ sx_Mo (sx_cd 196 pc) := ⟨by decide +kernel, fun pc => sx_tab_ok oa_196 pc⟩
theorem al_197 : plainFor ym_197 = true ∧ ∀ pc, sx_Ok "ShadeCarpetsModel" prog_14_method_82_code 8 "write" (Option.some Jvm.ClassFile.FieldType.long) pc (sx_cd 197 pc) ∧ sx_Mo (sx_cd 197 pc) := ⟨by decide +kernel, fun pc => sx_tab_ok oa_197 pc⟩
theorem al_198 : plainFor ym_198 = true ∧ ∀ pc, sx_Ok "ShadeCarpetsModel" prog_14_method_83_code 7 "copy" (Option.some Jvm.ClassFile.FieldType.int) pc (sx_cd 198 pc) ∧ sx_Mo (sx_cd 198 pc) := ⟨by decide +kernel, fun pc => sx_tab_ok oa_198 pc⟩
theorem al_199 : plainFor ym_199 = true ∧ ∀ pc, sx_Ok "ShadeCarpetsModel" prog_14_method_84_code 6 "lays" (Option.some Jvm.ClassFile.FieldType.int) pc (sx_cd 199 pc) ∧ sx_Mo (sx_cd 199 pc) := ⟨by decide +kernel, fun pc => sx_tab_ok oa_199 pc⟩
theorem al_200 : plainFor ym_200 = true ∧ ∀ pc, sx_Ok "ShadeCarpetsModel" prog_14_method_85_code 4 "wrongBook" (Option.some Jvm.ClassFile.FieldType.int) pc (sx_cd 200 pc) ∧ sx_Mo (sx_cd 200 pc) := ⟨by decide +kernel, fun pc => sx_tab_ok oa_200 pc⟩
theorem al_201 : plainFor ym_201 = true ∧ ∀ pc, sx_Ok "ShadeCarpetsModel" prog_14_method_86_code 5 "book" (Option.some Jvm.ClassFile.FieldType.int) pc (sx_cd 201 pc) ∧ sx_Mo (sx_cd 201 pc) := ⟨by decide +kernel, fun pc => sx_tab_ok oa_201 pc⟩
theorem al_202 : plainFor ym_202 = true ∧ ∀ pc, sx_Ok "ShadeCarpetsModel" prog_14_method_87_code 8 "read" (Option.some Jvm.ClassFile.FieldType.int) pc (sx_cd 202 pc) ∧ sx_Mo (sx_cd 202 pc) := ⟨by decide +kernel, fun pc => sx_tab_ok oa_202 pc⟩
theorem al_203 : plainFor ym_203 = true ∧ ∀ pc, sx_Ok "ShadeCarpetsModel" prog_14_method_88_code 2 "image" (Option.some Jvm.ClassFile.FieldType.int) pc (sx_cd 203 pc) ∧ sx_Mo (sx_cd 203 pc) := ⟨by decide +kernel, fun pc => sx_tab_ok oa_203 pc⟩
theorem al_204 : plainFor ym_204 = true ∧ ∀ pc, sx_Ok "ShadeCarpetsModel" prog_14_method_89_code 2 "undo" (Option.some Jvm.ClassFile.FieldType.int) pc (sx_cd 204 pc) ∧ sx_Mo (sx_cd 204 pc) := ⟨by decide +kernel, fun pc => sx_tab_ok oa_204 pc⟩
theorem al_205 : plainFor ym_205 = true ∧ ∀ pc, sx_Ok "ShadeCarpetsModel" prog_14_method_90_code 2 "tear" (Option.some Jvm.ClassFile.FieldType.int) pc (sx_cd 205 pc) ∧ sx_Mo (sx_cd 205 pc) := ⟨by decide +kernel, fun pc => sx_tab_ok oa_205 pc⟩
theorem al_206 : plainFor ym_206 = true ∧ ∀ pc, sx_Ok "ShadeCarpetsModel" prog_14_method_91_code 3 "prices" (Option.some Jvm.ClassFile.FieldType.int) pc (sx_cd 206 pc) ∧ sx_Mo (sx_cd 206 pc) := ⟨by decide +kernel, fun pc => sx_tab_ok oa_206 pc⟩
theorem al_207 : plainFor ym_207 = true ∧ ∀ pc, sx_Ok "ShadeCarpetsModel" prog_14_method_92_code 3 "ones" (Option.some Jvm.ClassFile.FieldType.int) pc (sx_cd 207 pc) ∧ sx_Mo (sx_cd 207 pc) := ⟨by decide +kernel, fun pc => sx_tab_ok oa_207 pc⟩
theorem al_208 : plainFor ym_208 = true ∧ ∀ pc, sx_Ok "ShadeCarpetsModel" prog_14_method_93_code 2 "count" (Option.some Jvm.ClassFile.FieldType.int) pc (sx_cd 208 pc) ∧ sx_Mo (sx_cd 208 pc) := ⟨by decide +kernel, fun pc => sx_tab_ok oa_208 pc⟩
theorem al_209 : plainFor ym_209 = true ∧ ∀ pc, sx_Ok "ShadeCarpetsModel" prog_14_method_94_code 4 "status" (Option.some Jvm.ClassFile.FieldType.int) pc (sx_cd 209 pc) ∧ sx_Mo (sx_cd 209 pc) := ⟨by decide +kernel, fun pc => sx_tab_ok oa_209 pc⟩
theorem al_210 : plainFor ym_210 = true ∧ ∀ pc, sx_Ok "java/lang/Integer" prog_15_method_49_code 1 "bitCount" (Option.some Jvm.ClassFile.FieldType.int) pc (sx_cd 210 pc) ∧ sx_Mo (sx_cd 210 pc) := ⟨by decide +kernel, fun pc => sx_tab_ok oa_210 pc⟩
theorem al_211 : plainFor ym_211 = true ∧ ∀ pc, sx_Ok "java/lang/Math" prog_16_method_50_code 3 "floorMod" (Option.some Jvm.ClassFile.FieldType.int) pc (sx_cd 211 pc) ∧ sx_Mo (sx_cd 211 pc) := ⟨by decide +kernel, fun pc => sx_tab_ok oa_211 pc⟩
theorem al_212 : plainFor ym_212 = true ∧ ∀ pc, sx_Ok "java/lang/Math" prog_16_method_59_code 1 "abs" (Option.some Jvm.ClassFile.FieldType.int) pc (sx_cd 212 pc) ∧ sx_Mo (sx_cd 212 pc) := ⟨by decide +kernel, fun pc => sx_tab_ok oa_212 pc⟩
theorem al_213 : plainFor ym_213 = true ∧ ∀ pc, sx_Ok "java/lang/Math" prog_16_method_65_code 2 "max" (Option.some Jvm.ClassFile.FieldType.int) pc (sx_cd 213 pc) ∧ sx_Mo (sx_cd 213 pc) := ⟨by decide +kernel, fun pc => sx_tab_ok oa_213 pc⟩
theorem al_214 : plainFor ym_214 = true ∧ ∀ pc, sx_Ok "java/lang/Math" prog_16_method_69_code 2 "min" (Option.some Jvm.ClassFile.FieldType.int) pc (sx_cd 214 pc) ∧ sx_Mo (sx_cd 214 pc) := ⟨by decide +kernel, fun pc => sx_tab_ok oa_214 pc⟩
theorem al_215 : plainFor ym_215 = true ∧ ∀ pc, sx_Ok "java/lang/String" prog_17_method_54_code 1 "length" (Option.some Jvm.ClassFile.FieldType.int) pc (sx_cd 215 pc) ∧ sx_Mo (sx_cd 215 pc) := ⟨by decide +kernel, fun pc => sx_tab_ok oa_215 pc⟩
theorem al_216 : plainFor ym_216 = true ∧ ∀ pc, sx_Ok "java/lang/String" prog_17_method_56_code 2 "charAt" (Option.some Jvm.ClassFile.FieldType.char) pc (sx_cd 216 pc) ∧ sx_Mo (sx_cd 216 pc) := ⟨by decide +kernel, fun pc => sx_tab_ok oa_216 pc⟩
theorem al_217 : plainFor ym_217 = true ∧ ∀ pc, sx_Ok "java/lang/String" prog_17_method_152_code 1 "coder" (Option.some Jvm.ClassFile.FieldType.byte) pc (sx_cd 217 pc) ∧ sx_Mo (sx_cd 217 pc) := ⟨by decide +kernel, fun pc => sx_tab_ok oa_217 pc⟩
theorem al_218 : plainFor ym_218 = true ∧ ∀ pc, sx_Ok "java/lang/String" prog_17_method_154_code 1 "isLatin1" (Option.some Jvm.ClassFile.FieldType.boolean) pc (sx_cd 218 pc) ∧ sx_Mo (sx_cd 218 pc) := ⟨by decide +kernel, fun pc => sx_tab_ok oa_218 pc⟩
theorem al_219 : plainFor ym_219 = true ∧ ∀ pc, sx_Ok "java/lang/String" prog_17_method_155_code 2 "checkIndex" (Option.none : Option Jvm.ClassFile.FieldType) pc (sx_cd 219 pc) ∧ sx_Mo (sx_cd 219 pc) := ⟨by decide +kernel, fun pc => sx_tab_ok oa_219 pc⟩
theorem al_220 : plainFor ym_220 = true ∧ ∀ pc, sx_Ok "java/lang/StringLatin1" prog_18_method_2_code 2 "charAt" (Option.some Jvm.ClassFile.FieldType.char) pc (sx_cd 220 pc) ∧ sx_Mo (sx_cd 220 pc) := ⟨by decide +kernel, fun pc => sx_tab_ok oa_220 pc⟩
theorem al_221 : plainFor ym_221 = true ∧ ∀ pc, sx_Ok "java/lang/StringUTF16" prog_19_method_5_code 2 "getChar" (Option.some Jvm.ClassFile.FieldType.char) pc (sx_cd 221 pc) ∧ sx_Mo (sx_cd 221 pc) := ⟨by decide +kernel, fun pc => sx_tab_ok oa_221 pc⟩
theorem al_222 : plainFor ym_222 = true ∧ ∀ pc, sx_Ok "java/lang/StringUTF16" prog_19_method_6_code 1 "length" (Option.some Jvm.ClassFile.FieldType.int) pc (sx_cd 222 pc) ∧ sx_Mo (sx_cd 222 pc) := ⟨by decide +kernel, fun pc => sx_tab_ok oa_222 pc⟩
theorem al_223 : plainFor ym_223 = true ∧ ∀ pc, sx_Ok "java/lang/StringUTF16" prog_19_method_83_code 2 "charAt" (Option.some Jvm.ClassFile.FieldType.char) pc (sx_cd 223 pc) ∧ sx_Mo (sx_cd 223 pc) := ⟨by decide +kernel, fun pc => sx_tab_ok oa_223 pc⟩
theorem al_224 : plainFor ym_224 = true ∧ ∀ pc, sx_Ok "java/lang/StringUTF16" prog_19_method_91_code 2 "checkIndex" (Option.none : Option Jvm.ClassFile.FieldType) pc (sx_cd 224 pc) ∧ sx_Mo (sx_cd 224 pc) := ⟨by decide +kernel, fun pc => sx_tab_ok oa_224 pc⟩
theorem al_225 : plainFor ym_225 = true ∧ ∀ pc, sx_Ok "java/util/Arrays" prog_21_method_101_code 5 "fill" (Option.none : Option Jvm.ClassFile.FieldType) pc (sx_cd 225 pc) ∧ sx_Mo (sx_cd 225 pc) := ⟨by decide +kernel, fun pc => sx_tab_ok oa_225 pc⟩
theorem al_226 : plainFor ym_226 = true ∧ ∀ pc, sx_Ok "java/util/Arrays" prog_21_method_103_code 4 "fill" (Option.none : Option Jvm.ClassFile.FieldType) pc (sx_cd 226 pc) ∧ sx_Mo (sx_cd 226 pc) := ⟨by decide +kernel, fun pc => sx_tab_ok oa_226 pc⟩
theorem al_227 : plainFor ym_227 = true ∧ ∀ pc, sx_Ok "jdk/internal/util/Preconditions" prog_22_method_11_code 3 "checkIndex" (Option.some Jvm.ClassFile.FieldType.int) pc (sx_cd 227 pc) ∧ sx_Mo (sx_cd 227 pc) := ⟨by decide +kernel, fun pc => sx_tab_ok oa_227 pc⟩
theorem ag_0 : ∀ (k : Nat) (q : sx_MI), 0 ≤ k → k < 19 → sx_ml[k]? = some q → plainFor q.1 = true ∧ ∀ pc, sx_Ok q.1.cls q.2.1 q.2.2.1 q.1.name q.2.2.2 pc (sx_cd k pc) ∧ sx_Mo (sx_cd k pc) := by
  intro k q h1 h2 hq
  rcases (show k = 0 ∨ k = 1 ∨ k = 2 ∨ k = 3 ∨ k = 4 ∨ k = 5 ∨ k = 6 ∨ k = 7 ∨ k = 8 ∨ k = 9 ∨ k = 10 ∨ k = 11 ∨ k = 12 ∨ k = 13 ∨ k = 14 ∨ k = 15 ∨ k = 16 ∨ k = 17 ∨ k = 18 by omega) with rfl | rfl | rfl | rfl | rfl | rfl | rfl | rfl | rfl | rfl | rfl | rfl | rfl | rfl | rfl | rfl | rfl | rfl | rfl
  · cases hq; exact al_0
  · cases hq; exact al_1
  · cases hq; exact al_2
  · cases hq; exact al_3
  · cases hq; exact al_4
  · cases hq; exact al_5
  · cases hq; exact al_6
  · cases hq; exact al_7
  · cases hq; exact al_8
  · cases hq; exact al_9
  · cases hq; exact al_10
  · cases hq; exact al_11
  · cases hq; exact al_12
  · cases hq; exact al_13
  · cases hq; exact al_14
  · cases hq; exact al_15
  · cases hq; exact al_16
  · cases hq; exact al_17
  · cases hq; exact al_18
theorem ag_1 : ∀ (k : Nat) (q : sx_MI), 19 ≤ k → k < 38 → sx_ml[k]? = some q → plainFor q.1 = true ∧ ∀ pc, sx_Ok q.1.cls q.2.1 q.2.2.1 q.1.name q.2.2.2 pc (sx_cd k pc) ∧ sx_Mo (sx_cd k pc) := by
  intro k q h1 h2 hq
  rcases (show k = 19 ∨ k = 20 ∨ k = 21 ∨ k = 22 ∨ k = 23 ∨ k = 24 ∨ k = 25 ∨ k = 26 ∨ k = 27 ∨ k = 28 ∨ k = 29 ∨ k = 30 ∨ k = 31 ∨ k = 32 ∨ k = 33 ∨ k = 34 ∨ k = 35 ∨ k = 36 ∨ k = 37 by omega) with rfl | rfl | rfl | rfl | rfl | rfl | rfl | rfl | rfl | rfl | rfl | rfl | rfl | rfl | rfl | rfl | rfl | rfl | rfl
  · cases hq; exact al_19
  · cases hq; exact al_20
  · cases hq; exact al_21
  · cases hq; exact al_22
  · cases hq; exact al_23
  · cases hq; exact al_24
  · cases hq; exact al_25
  · cases hq; exact al_26
  · cases hq; exact al_27
  · cases hq; exact al_28
  · cases hq; exact al_29
  · cases hq; exact al_30
  · cases hq; exact al_31
  · cases hq; exact al_32
  · cases hq; exact al_33
  · cases hq; exact al_34
  · cases hq; exact al_35
  · cases hq; exact al_36
  · cases hq; exact al_37
theorem ag_2 : ∀ (k : Nat) (q : sx_MI), 38 ≤ k → k < 57 → sx_ml[k]? = some q → plainFor q.1 = true ∧ ∀ pc, sx_Ok q.1.cls q.2.1 q.2.2.1 q.1.name q.2.2.2 pc (sx_cd k pc) ∧ sx_Mo (sx_cd k pc) := by
  intro k q h1 h2 hq
  rcases (show k = 38 ∨ k = 39 ∨ k = 40 ∨ k = 41 ∨ k = 42 ∨ k = 43 ∨ k = 44 ∨ k = 45 ∨ k = 46 ∨ k = 47 ∨ k = 48 ∨ k = 49 ∨ k = 50 ∨ k = 51 ∨ k = 52 ∨ k = 53 ∨ k = 54 ∨ k = 55 ∨ k = 56 by omega) with rfl | rfl | rfl | rfl | rfl | rfl | rfl | rfl | rfl | rfl | rfl | rfl | rfl | rfl | rfl | rfl | rfl | rfl | rfl
  · cases hq; exact al_38
  · cases hq; exact al_39
  · cases hq; exact al_40
  · cases hq; exact al_41
  · cases hq; exact al_42
  · cases hq; exact al_43
  · cases hq; exact al_44
  · cases hq; exact al_45
  · cases hq; exact al_46
  · cases hq; exact al_47
  · cases hq; exact al_48
  · cases hq; exact al_49
  · cases hq; exact al_50
  · cases hq; exact al_51
  · cases hq; exact al_52
  · cases hq; exact al_53
  · cases hq; exact al_54
  · cases hq; exact al_55
  · cases hq; exact al_56
theorem ag_3 : ∀ (k : Nat) (q : sx_MI), 57 ≤ k → k < 76 → sx_ml[k]? = some q → plainFor q.1 = true ∧ ∀ pc, sx_Ok q.1.cls q.2.1 q.2.2.1 q.1.name q.2.2.2 pc (sx_cd k pc) ∧ sx_Mo (sx_cd k pc) := by
  intro k q h1 h2 hq
  rcases (show k = 57 ∨ k = 58 ∨ k = 59 ∨ k = 60 ∨ k = 61 ∨ k = 62 ∨ k = 63 ∨ k = 64 ∨ k = 65 ∨ k = 66 ∨ k = 67 ∨ k = 68 ∨ k = 69 ∨ k = 70 ∨ k = 71 ∨ k = 72 ∨ k = 73 ∨ k = 74 ∨ k = 75 by omega) with rfl | rfl | rfl | rfl | rfl | rfl | rfl | rfl | rfl | rfl | rfl | rfl | rfl | rfl | rfl | rfl | rfl | rfl | rfl
  · cases hq; exact al_57
  · cases hq; exact al_58
  · cases hq; exact al_59
  · cases hq; exact al_60
  · cases hq; exact al_61
  · cases hq; exact al_62
  · cases hq; exact al_63
  · cases hq; exact al_64
  · cases hq; exact al_65
  · cases hq; exact al_66
  · cases hq; exact al_67
  · cases hq; exact al_68
  · cases hq; exact al_69
  · cases hq; exact al_70
  · cases hq; exact al_71
  · cases hq; exact al_72
  · cases hq; exact al_73
  · cases hq; exact al_74
  · cases hq; exact al_75
theorem ag_4 : ∀ (k : Nat) (q : sx_MI), 76 ≤ k → k < 95 → sx_ml[k]? = some q → plainFor q.1 = true ∧ ∀ pc, sx_Ok q.1.cls q.2.1 q.2.2.1 q.1.name q.2.2.2 pc (sx_cd k pc) ∧ sx_Mo (sx_cd k pc) := by
  intro k q h1 h2 hq
  rcases (show k = 76 ∨ k = 77 ∨ k = 78 ∨ k = 79 ∨ k = 80 ∨ k = 81 ∨ k = 82 ∨ k = 83 ∨ k = 84 ∨ k = 85 ∨ k = 86 ∨ k = 87 ∨ k = 88 ∨ k = 89 ∨ k = 90 ∨ k = 91 ∨ k = 92 ∨ k = 93 ∨ k = 94 by omega) with rfl | rfl | rfl | rfl | rfl | rfl | rfl | rfl | rfl | rfl | rfl | rfl | rfl | rfl | rfl | rfl | rfl | rfl | rfl
  · cases hq; exact al_76
  · cases hq; exact al_77
  · cases hq; exact al_78
  · cases hq; exact al_79
  · cases hq; exact al_80
  · cases hq; exact al_81
  · cases hq; exact al_82
  · cases hq; exact al_83
  · cases hq; exact al_84
  · cases hq; exact al_85
  · cases hq; exact al_86
  · cases hq; exact al_87
  · cases hq; exact al_88
  · cases hq; exact al_89
  · cases hq; exact al_90
  · cases hq; exact al_91
  · cases hq; exact al_92
  · cases hq; exact al_93
  · cases hq; exact al_94
theorem ag_5 : ∀ (k : Nat) (q : sx_MI), 95 ≤ k → k < 114 → sx_ml[k]? = some q → plainFor q.1 = true ∧ ∀ pc, sx_Ok q.1.cls q.2.1 q.2.2.1 q.1.name q.2.2.2 pc (sx_cd k pc) ∧ sx_Mo (sx_cd k pc) := by
  intro k q h1 h2 hq
  rcases (show k = 95 ∨ k = 96 ∨ k = 97 ∨ k = 98 ∨ k = 99 ∨ k = 100 ∨ k = 101 ∨ k = 102 ∨ k = 103 ∨ k = 104 ∨ k = 105 ∨ k = 106 ∨ k = 107 ∨ k = 108 ∨ k = 109 ∨ k = 110 ∨ k = 111 ∨ k = 112 ∨ k = 113 by omega) with rfl | rfl | rfl | rfl | rfl | rfl | rfl | rfl | rfl | rfl | rfl | rfl | rfl | rfl | rfl | rfl | rfl | rfl | rfl
  · cases hq; exact al_95
  · cases hq; exact al_96
  · cases hq; exact al_97
  · cases hq; exact al_98
  · cases hq; exact al_99
  · cases hq; exact al_100
  · cases hq; exact al_101
  · cases hq; exact al_102
  · cases hq; exact al_103
  · cases hq; exact al_104
  · cases hq; exact al_105
  · cases hq; exact al_106
  · cases hq; exact al_107
  · cases hq; exact al_108
  · cases hq; exact al_109
  · cases hq; exact al_110
  · cases hq; exact al_111
  · cases hq; exact al_112
  · cases hq; exact al_113
theorem ag_6 : ∀ (k : Nat) (q : sx_MI), 114 ≤ k → k < 133 → sx_ml[k]? = some q → plainFor q.1 = true ∧ ∀ pc, sx_Ok q.1.cls q.2.1 q.2.2.1 q.1.name q.2.2.2 pc (sx_cd k pc) ∧ sx_Mo (sx_cd k pc) := by
  intro k q h1 h2 hq
  rcases (show k = 114 ∨ k = 115 ∨ k = 116 ∨ k = 117 ∨ k = 118 ∨ k = 119 ∨ k = 120 ∨ k = 121 ∨ k = 122 ∨ k = 123 ∨ k = 124 ∨ k = 125 ∨ k = 126 ∨ k = 127 ∨ k = 128 ∨ k = 129 ∨ k = 130 ∨ k = 131 ∨ k = 132 by omega) with rfl | rfl | rfl | rfl | rfl | rfl | rfl | rfl | rfl | rfl | rfl | rfl | rfl | rfl | rfl | rfl | rfl | rfl | rfl
  · cases hq; exact al_114
  · cases hq; exact al_115
  · cases hq; exact al_116
  · cases hq; exact al_117
  · cases hq; exact al_118
  · cases hq; exact al_119
  · cases hq; exact al_120
  · cases hq; exact al_121
  · cases hq; exact al_122
  · cases hq; exact al_123
  · cases hq; exact al_124
  · cases hq; exact al_125
  · cases hq; exact al_126
  · cases hq; exact al_127
  · cases hq; exact al_128
  · cases hq; exact al_129
  · cases hq; exact al_130
  · cases hq; exact al_131
  · cases hq; exact al_132
theorem ag_7 : ∀ (k : Nat) (q : sx_MI), 133 ≤ k → k < 152 → sx_ml[k]? = some q → plainFor q.1 = true ∧ ∀ pc, sx_Ok q.1.cls q.2.1 q.2.2.1 q.1.name q.2.2.2 pc (sx_cd k pc) ∧ sx_Mo (sx_cd k pc) := by
  intro k q h1 h2 hq
  rcases (show k = 133 ∨ k = 134 ∨ k = 135 ∨ k = 136 ∨ k = 137 ∨ k = 138 ∨ k = 139 ∨ k = 140 ∨ k = 141 ∨ k = 142 ∨ k = 143 ∨ k = 144 ∨ k = 145 ∨ k = 146 ∨ k = 147 ∨ k = 148 ∨ k = 149 ∨ k = 150 ∨ k = 151 by omega) with rfl | rfl | rfl | rfl | rfl | rfl | rfl | rfl | rfl | rfl | rfl | rfl | rfl | rfl | rfl | rfl | rfl | rfl | rfl
  · cases hq; exact al_133
  · cases hq; exact al_134
  · cases hq; exact al_135
  · cases hq; exact al_136
  · cases hq; exact al_137
  · cases hq; exact al_138
  · cases hq; exact al_139
  · cases hq; exact al_140
  · cases hq; exact al_141
  · cases hq; exact al_142
  · cases hq; exact al_143
  · cases hq; exact al_144
  · cases hq; exact al_145
  · cases hq; exact al_146
  · cases hq; exact al_147
  · cases hq; exact al_148
  · cases hq; exact al_149
  · cases hq; exact al_150
  · cases hq; exact al_151
theorem ag_8 : ∀ (k : Nat) (q : sx_MI), 152 ≤ k → k < 171 → sx_ml[k]? = some q → plainFor q.1 = true ∧ ∀ pc, sx_Ok q.1.cls q.2.1 q.2.2.1 q.1.name q.2.2.2 pc (sx_cd k pc) ∧ sx_Mo (sx_cd k pc) := by
  intro k q h1 h2 hq
  rcases (show k = 152 ∨ k = 153 ∨ k = 154 ∨ k = 155 ∨ k = 156 ∨ k = 157 ∨ k = 158 ∨ k = 159 ∨ k = 160 ∨ k = 161 ∨ k = 162 ∨ k = 163 ∨ k = 164 ∨ k = 165 ∨ k = 166 ∨ k = 167 ∨ k = 168 ∨ k = 169 ∨ k = 170 by omega) with rfl | rfl | rfl | rfl | rfl | rfl | rfl | rfl | rfl | rfl | rfl | rfl | rfl | rfl | rfl | rfl | rfl | rfl | rfl
  · cases hq; exact al_152
  · cases hq; exact al_153
  · cases hq; exact al_154
  · cases hq; exact al_155
  · cases hq; exact al_156
  · cases hq; exact al_157
  · cases hq; exact al_158
  · cases hq; exact al_159
  · cases hq; exact al_160
  · cases hq; exact al_161
  · cases hq; exact al_162
  · cases hq; exact al_163
  · cases hq; exact al_164
  · cases hq; exact al_165
  · cases hq; exact al_166
  · cases hq; exact al_167
  · cases hq; exact al_168
  · cases hq; exact al_169
  · cases hq; exact al_170
theorem ag_9 : ∀ (k : Nat) (q : sx_MI), 171 ≤ k → k < 190 → sx_ml[k]? = some q → plainFor q.1 = true ∧ ∀ pc, sx_Ok q.1.cls q.2.1 q.2.2.1 q.1.name q.2.2.2 pc (sx_cd k pc) ∧ sx_Mo (sx_cd k pc) := by
  intro k q h1 h2 hq
  rcases (show k = 171 ∨ k = 172 ∨ k = 173 ∨ k = 174 ∨ k = 175 ∨ k = 176 ∨ k = 177 ∨ k = 178 ∨ k = 179 ∨ k = 180 ∨ k = 181 ∨ k = 182 ∨ k = 183 ∨ k = 184 ∨ k = 185 ∨ k = 186 ∨ k = 187 ∨ k = 188 ∨ k = 189 by omega) with rfl | rfl | rfl | rfl | rfl | rfl | rfl | rfl | rfl | rfl | rfl | rfl | rfl | rfl | rfl | rfl | rfl | rfl | rfl
  · cases hq; exact al_171
  · cases hq; exact al_172
  · cases hq; exact al_173
  · cases hq; exact al_174
  · cases hq; exact al_175
  · cases hq; exact al_176
  · cases hq; exact al_177
  · cases hq; exact al_178
  · cases hq; exact al_179
  · cases hq; exact al_180
  · cases hq; exact al_181
  · cases hq; exact al_182
  · cases hq; exact al_183
  · cases hq; exact al_184
  · cases hq; exact al_185
  · cases hq; exact al_186
  · cases hq; exact al_187
  · cases hq; exact al_188
  · cases hq; exact al_189
theorem ag_10 : ∀ (k : Nat) (q : sx_MI), 190 ≤ k → k < 209 → sx_ml[k]? = some q → plainFor q.1 = true ∧ ∀ pc, sx_Ok q.1.cls q.2.1 q.2.2.1 q.1.name q.2.2.2 pc (sx_cd k pc) ∧ sx_Mo (sx_cd k pc) := by
  intro k q h1 h2 hq
  rcases (show k = 190 ∨ k = 191 ∨ k = 192 ∨ k = 193 ∨ k = 194 ∨ k = 195 ∨ k = 196 ∨ k = 197 ∨ k = 198 ∨ k = 199 ∨ k = 200 ∨ k = 201 ∨ k = 202 ∨ k = 203 ∨ k = 204 ∨ k = 205 ∨ k = 206 ∨ k = 207 ∨ k = 208 by omega) with rfl | rfl | rfl | rfl | rfl | rfl | rfl | rfl | rfl | rfl | rfl | rfl | rfl | rfl | rfl | rfl | rfl | rfl | rfl
  · cases hq; exact al_190
  · cases hq; exact al_191
  · cases hq; exact al_192
  · cases hq; exact al_193
  · cases hq; exact al_194
  · cases hq; exact al_195
  · cases hq; exact al_196
  · cases hq; exact al_197
  · cases hq; exact al_198
  · cases hq; exact al_199
  · cases hq; exact al_200
  · cases hq; exact al_201
  · cases hq; exact al_202
  · cases hq; exact al_203
  · cases hq; exact al_204
  · cases hq; exact al_205
  · cases hq; exact al_206
  · cases hq; exact al_207
  · cases hq; exact al_208
theorem ag_11 : ∀ (k : Nat) (q : sx_MI), 209 ≤ k → k < 228 → sx_ml[k]? = some q → plainFor q.1 = true ∧ ∀ pc, sx_Ok q.1.cls q.2.1 q.2.2.1 q.1.name q.2.2.2 pc (sx_cd k pc) ∧ sx_Mo (sx_cd k pc) := by
  intro k q h1 h2 hq
  rcases (show k = 209 ∨ k = 210 ∨ k = 211 ∨ k = 212 ∨ k = 213 ∨ k = 214 ∨ k = 215 ∨ k = 216 ∨ k = 217 ∨ k = 218 ∨ k = 219 ∨ k = 220 ∨ k = 221 ∨ k = 222 ∨ k = 223 ∨ k = 224 ∨ k = 225 ∨ k = 226 ∨ k = 227 by omega) with rfl | rfl | rfl | rfl | rfl | rfl | rfl | rfl | rfl | rfl | rfl | rfl | rfl | rfl | rfl | rfl | rfl | rfl | rfl
  · cases hq; exact al_209
  · cases hq; exact al_210
  · cases hq; exact al_211
  · cases hq; exact al_212
  · cases hq; exact al_213
  · cases hq; exact al_214
  · cases hq; exact al_215
  · cases hq; exact al_216
  · cases hq; exact al_217
  · cases hq; exact al_218
  · cases hq; exact al_219
  · cases hq; exact al_220
  · cases hq; exact al_221
  · cases hq; exact al_222
  · cases hq; exact al_223
  · cases hq; exact al_224
  · cases hq; exact al_225
  · cases hq; exact al_226
  · cases hq; exact al_227
theorem sx_all : sx_All sx_cd := by
  have h0 : ∀ k pc, sx_ml[k]? = none → sx_cd k pc = fun _ _ _ => none := by
    intro k pc hk
    have hk2 : 228 ≤ k := by
      rw [List.getElem?_eq_none_iff] at hk
      exact hk
    unfold sx_cd
    rw [List.getElem?_eq_none (show sx_ckl.length ≤ k from hk2)]
  have h1 : ∀ (k : Nat) (q : sx_MI), sx_ml[k]? = some q → plainFor q.1 = true ∧ ∀ pc, sx_Ok q.1.cls q.2.1 q.2.2.1 q.1.name q.2.2.2 pc (sx_cd k pc) ∧ sx_Mo (sx_cd k pc) := by
    intro k q hq
    have hk : k < 228 := (List.getElem?_eq_some_iff.mp hq).1

    by_cases c0 : k < 19
    · exact ag_0 k q (by omega) c0 hq
    by_cases c1 : k < 38
    · exact ag_1 k q (by omega) c1 hq
    by_cases c2 : k < 57
    · exact ag_2 k q (by omega) c2 hq
    by_cases c3 : k < 76
    · exact ag_3 k q (by omega) c3 hq
    by_cases c4 : k < 95
    · exact ag_4 k q (by omega) c4 hq
    by_cases c5 : k < 114
    · exact ag_5 k q (by omega) c5 hq
    by_cases c6 : k < 133
    · exact ag_6 k q (by omega) c6 hq
    by_cases c7 : k < 152
    · exact ag_7 k q (by omega) c7 hq
    by_cases c8 : k < 171
    · exact ag_8 k q (by omega) c8 hq
    by_cases c9 : k < 190
    · exact ag_9 k q (by omega) c9 hq
    by_cases c10 : k < 209
    · exact ag_10 k q (by omega) c10 hq
    exact ag_11 k q (by omega) (by omega) hq
  refine ⟨fun k pc => ?_, fun k q hq => ⟨(h1 k q hq).1, fun pc => ((h1 k q hq).2 pc).1⟩⟩
  cases hk : sx_ml[k]? with
  | none => rw [h0 k pc hk]; exact sx_mo_none
  | some q => exact ((h1 k q hk).2 pc).2
