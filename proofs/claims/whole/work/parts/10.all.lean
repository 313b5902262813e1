/-! all that the clean machine asks of the data holds -/
def cm_F (p : Nat → List (List (Nat × cm_D)) → Prop) : Nat → List (List (List (Nat × cm_D))) → Prop
  | _, [] => True
  | k, c :: t => p k c ∧ cm_F p (k + 1) t
theorem cm_F_app {p : Nat → List (List (Nat × cm_D)) → Prop} : ∀ (a b : List (List (List (Nat × cm_D)))) (k : Nat), cm_F p k a → cm_F p (k + a.length) b → cm_F p k (a ++ b) := by
  intro a
  induction a with
  | nil => intro b k _ h; exact h
  | cons c t ih =>
    intro b k h1 h2
    refine ⟨h1.1, ih b (k + 1) h1.2 ?_⟩
    have e : k + 1 + t.length = k + (c :: t).length := by rw [List.length_cons]; omega
    rw [e]
    exact h2
theorem cm_F_at {p : Nat → List (List (Nat × cm_D)) → Prop} : ∀ (l : List (List (List (Nat × cm_D)))) (k y : Nat) (c : List (List (Nat × cm_D))), cm_F p k l → l[y]? = some c → p (k + y) c := by
  intro l
  induction l with
  | nil => intro k y c _ h; cases h
  | cons a t ih =>
    intro k y c h hy
    cases y with
    | zero => cases hy; exact h.1
    | succ y =>
      have := ih (k + 1) y c h.2 hy
      rw [show k + (y + 1) = k + 1 + y by omega]
      exact this
def cm_pY (y : Nat) (ck : List (List (Nat × cm_D))) : Prop := ∃ T : List Jvm.Cond, (∀ w ∈ T, w ∈ cm_Tg ++ cm_Tn) ∧ cm_by cm_g T 300 y ck = true
theorem wo_sub {T : List Jvm.Cond} (h : ∀ w ∈ T, w ∈ wo_all) : ∀ w ∈ T, w ∈ cm_Tg ++ cm_Tn := fun w hw => List.mem_append_left _ (List.mem_append_right _ (List.mem_append_left _ (h w hw)))
theorem wo_0_sub : ∀ w ∈ wo_0, w ∈ cm_Tg ++ cm_Tn := wo_sub fun w h => List.mem_append_left _ h
theorem wo_1_sub : ∀ w ∈ wo_1, w ∈ cm_Tg ++ cm_Tn := wo_sub fun w h => List.mem_append_right _ (List.mem_append_left _ h)
theorem wo_2_sub : ∀ w ∈ wo_2, w ∈ cm_Tg ++ cm_Tn := wo_sub fun w h => List.mem_append_right _ (List.mem_append_right _ (List.mem_append_left _ h))
theorem wo_3_sub : ∀ w ∈ wo_3, w ∈ cm_Tg ++ cm_Tn := wo_sub fun w h => List.mem_append_right _ (List.mem_append_right _ (List.mem_append_right _ (List.mem_append_left _ h)))
theorem wo_4_sub : ∀ w ∈ wo_4, w ∈ cm_Tg ++ cm_Tn := wo_sub fun w h => List.mem_append_right _ (List.mem_append_right _ (List.mem_append_right _ (List.mem_append_right _ (List.mem_append_left _ h))))
theorem wo_5_sub : ∀ w ∈ wo_5, w ∈ cm_Tg ++ cm_Tn := wo_sub fun w h => List.mem_append_right _ (List.mem_append_right _ (List.mem_append_right _ (List.mem_append_right _ (List.mem_append_right _ (List.mem_append_left _ h)))))
theorem wo_6_sub : ∀ w ∈ wo_6, w ∈ cm_Tg ++ cm_Tn := wo_sub fun w h => List.mem_append_right _ (List.mem_append_right _ (List.mem_append_right _ (List.mem_append_right _ (List.mem_append_right _ (List.mem_append_right _ (List.mem_append_left _ h))))))
theorem wo_7_sub : ∀ w ∈ wo_7, w ∈ cm_Tg ++ cm_Tn := wo_sub fun w h => List.mem_append_right _ (List.mem_append_right _ (List.mem_append_right _ (List.mem_append_right _ (List.mem_append_right _ (List.mem_append_right _ (List.mem_append_right _ (List.mem_append_left _ h)))))))
theorem wo_8_sub : ∀ w ∈ wo_8, w ∈ cm_Tg ++ cm_Tn := wo_sub fun w h => List.mem_append_right _ (List.mem_append_right _ (List.mem_append_right _ (List.mem_append_right _ (List.mem_append_right _ (List.mem_append_right _ (List.mem_append_right _ (List.mem_append_right _ (List.mem_append_left _ h))))))))
theorem wo_9_sub : ∀ w ∈ wo_9, w ∈ cm_Tg ++ cm_Tn := wo_sub fun w h => List.mem_append_right _ (List.mem_append_right _ (List.mem_append_right _ (List.mem_append_right _ (List.mem_append_right _ (List.mem_append_right _ (List.mem_append_right _ (List.mem_append_right _ (List.mem_append_right _ (List.mem_append_left _ h)))))))))
theorem wo_10_sub : ∀ w ∈ wo_10, w ∈ cm_Tg ++ cm_Tn := wo_sub fun w h => List.mem_append_right _ (List.mem_append_right _ (List.mem_append_right _ (List.mem_append_right _ (List.mem_append_right _ (List.mem_append_right _ (List.mem_append_right _ (List.mem_append_right _ (List.mem_append_right _ (List.mem_append_right _ (List.mem_append_left _ h))))))))))
theorem wo_11_sub : ∀ w ∈ wo_11, w ∈ cm_Tg ++ cm_Tn := wo_sub fun w h => List.mem_append_right _ (List.mem_append_right _ (List.mem_append_right _ (List.mem_append_right _ (List.mem_append_right _ (List.mem_append_right _ (List.mem_append_right _ (List.mem_append_right _ (List.mem_append_right _ (List.mem_append_right _ (List.mem_append_right _ (List.mem_append_left _ h)))))))))))
theorem wo_12_sub : ∀ w ∈ wo_12, w ∈ cm_Tg ++ cm_Tn := wo_sub fun w h => List.mem_append_right _ (List.mem_append_right _ (List.mem_append_right _ (List.mem_append_right _ (List.mem_append_right _ (List.mem_append_right _ (List.mem_append_right _ (List.mem_append_right _ (List.mem_append_right _ (List.mem_append_right _ (List.mem_append_right _ (List.mem_append_right _ (List.mem_append_left _ h))))))))))))
theorem wo_13_sub : ∀ w ∈ wo_13, w ∈ cm_Tg ++ cm_Tn := wo_sub fun w h => List.mem_append_right _ (List.mem_append_right _ (List.mem_append_right _ (List.mem_append_right _ (List.mem_append_right _ (List.mem_append_right _ (List.mem_append_right _ (List.mem_append_right _ (List.mem_append_right _ (List.mem_append_right _ (List.mem_append_right _ (List.mem_append_right _ (List.mem_append_right _ (h)))))))))))))
theorem cm_F_0 : cm_F cm_pY 0 cm_cks0 := ⟨⟨wo_0, wo_0_sub, cy_0⟩, ⟨wo_1, wo_1_sub, cy_1⟩, ⟨wo_0, wo_0_sub, cy_2⟩, ⟨wo_0, wo_0_sub, cy_3⟩, ⟨wo_0, wo_0_sub, cy_4⟩, ⟨wo_2, wo_2_sub, cy_5⟩, ⟨wo_3, wo_3_sub, cy_6⟩, ⟨wo_1, wo_1_sub, cy_7⟩, ⟨wo_3, wo_3_sub, cy_8⟩, ⟨wo_4, wo_4_sub, cy_9⟩, ⟨wo_3, wo_3_sub, cy_10⟩, ⟨wo_2, wo_2_sub, cy_11⟩, ⟨wo_2, wo_2_sub, cy_12⟩, ⟨wo_2, wo_2_sub, cy_13⟩, ⟨wo_5, wo_5_sub, cy_14⟩, ⟨wo_4, wo_4_sub, cy_15⟩, ⟨wo_6, wo_6_sub, cy_16⟩, ⟨wo_6, wo_6_sub, cy_17⟩, ⟨wo_6, wo_6_sub, cy_18⟩, ⟨wo_6, wo_6_sub, cy_19⟩, ⟨wo_6, wo_6_sub, cy_20⟩, ⟨wo_5, wo_5_sub, cy_21⟩, ⟨wo_5, wo_5_sub, cy_22⟩, ⟨wo_5, wo_5_sub, cy_23⟩, ⟨wo_5, wo_5_sub, cy_24⟩, ⟨wo_5, wo_5_sub, cy_25⟩, ⟨wo_5, wo_5_sub, cy_26⟩, ⟨wo_5, wo_5_sub, cy_27⟩, ⟨wo_6, wo_6_sub, cy_28⟩, ⟨wo_5, wo_5_sub, cy_29⟩, trivial⟩
theorem cm_F_1 : cm_F cm_pY 30 cm_cks1 := ⟨⟨wo_7, wo_7_sub, cy_30⟩, ⟨wo_3, wo_3_sub, cy_31⟩, ⟨wo_7, wo_7_sub, cy_32⟩, ⟨wo_4, wo_4_sub, cy_33⟩, ⟨wo_7, wo_7_sub, cy_34⟩, ⟨wo_3, wo_3_sub, cy_35⟩, ⟨wo_7, wo_7_sub, cy_36⟩, ⟨wo_7, wo_7_sub, cy_37⟩, ⟨wo_7, wo_7_sub, cy_38⟩, ⟨wo_7, wo_7_sub, cy_39⟩, ⟨wo_7, wo_7_sub, cy_40⟩, ⟨wo_7, wo_7_sub, cy_41⟩, ⟨wo_7, wo_7_sub, cy_42⟩, ⟨wo_7, wo_7_sub, cy_43⟩, ⟨wo_7, wo_7_sub, cy_44⟩, ⟨wo_7, wo_7_sub, cy_45⟩, ⟨wo_7, wo_7_sub, cy_46⟩, ⟨wo_7, wo_7_sub, cy_47⟩, ⟨wo_7, wo_7_sub, cy_48⟩, ⟨wo_7, wo_7_sub, cy_49⟩, ⟨wo_7, wo_7_sub, cy_50⟩, ⟨wo_7, wo_7_sub, cy_51⟩, ⟨wo_7, wo_7_sub, cy_52⟩, ⟨wo_7, wo_7_sub, cy_53⟩, ⟨wo_1, wo_1_sub, cy_54⟩, ⟨wo_3, wo_3_sub, cy_55⟩, ⟨wo_8, wo_8_sub, cy_56⟩, ⟨wo_8, wo_8_sub, cy_57⟩, ⟨wo_8, wo_8_sub, cy_58⟩, ⟨wo_8, wo_8_sub, cy_59⟩, trivial⟩
theorem cm_F_2 : cm_F cm_pY 60 cm_cks2 := ⟨⟨wo_8, wo_8_sub, cy_60⟩, ⟨wo_8, wo_8_sub, cy_61⟩, ⟨wo_4, wo_4_sub, cy_62⟩, ⟨wo_3, wo_3_sub, cy_63⟩, ⟨wo_1, wo_1_sub, cy_64⟩, ⟨wo_8, wo_8_sub, cy_65⟩, ⟨wo_8, wo_8_sub, cy_66⟩, ⟨wo_8, wo_8_sub, cy_67⟩, ⟨wo_8, wo_8_sub, cy_68⟩, ⟨wo_8, wo_8_sub, cy_69⟩, ⟨wo_8, wo_8_sub, cy_70⟩, ⟨wo_1, wo_1_sub, cy_71⟩, ⟨wo_1, wo_1_sub, cy_72⟩, ⟨wo_3, wo_3_sub, cy_73⟩, ⟨wo_8, wo_8_sub, cy_74⟩, ⟨wo_3, wo_3_sub, cy_75⟩, ⟨wo_8, wo_8_sub, cy_76⟩, ⟨wo_3, wo_3_sub, cy_77⟩, ⟨wo_3, wo_3_sub, cy_78⟩, ⟨wo_8, wo_8_sub, cy_79⟩, ⟨wo_8, wo_8_sub, cy_80⟩, ⟨wo_3, wo_3_sub, cy_81⟩, ⟨wo_8, wo_8_sub, cy_82⟩, ⟨wo_8, wo_8_sub, cy_83⟩, ⟨wo_3, wo_3_sub, cy_84⟩, ⟨wo_3, wo_3_sub, cy_85⟩, ⟨wo_8, wo_8_sub, cy_86⟩, ⟨wo_9, wo_9_sub, cy_87⟩, ⟨wo_9, wo_9_sub, cy_88⟩, ⟨wo_9, wo_9_sub, cy_89⟩, trivial⟩
theorem cm_F_3 : cm_F cm_pY 90 cm_cks3 := ⟨⟨wo_9, wo_9_sub, cy_90⟩, ⟨wo_9, wo_9_sub, cy_91⟩, ⟨wo_9, wo_9_sub, cy_92⟩, ⟨wo_9, wo_9_sub, cy_93⟩, ⟨wo_6, wo_6_sub, cy_94⟩, ⟨wo_6, wo_6_sub, cy_95⟩, ⟨wo_1, wo_1_sub, cy_96⟩, ⟨wo_6, wo_6_sub, cy_97⟩, ⟨wo_1, wo_1_sub, cy_98⟩, ⟨wo_1, wo_1_sub, cy_99⟩, ⟨wo_6, wo_6_sub, cy_100⟩, ⟨wo_6, wo_6_sub, cy_101⟩, ⟨wo_6, wo_6_sub, cy_102⟩, ⟨wo_6, wo_6_sub, cy_103⟩, ⟨wo_6, wo_6_sub, cy_104⟩, ⟨wo_6, wo_6_sub, cy_105⟩, ⟨wo_6, wo_6_sub, cy_106⟩, ⟨wo_6, wo_6_sub, cy_107⟩, ⟨wo_6, wo_6_sub, cy_108⟩, ⟨wo_6, wo_6_sub, cy_109⟩, ⟨wo_6, wo_6_sub, cy_110⟩, ⟨wo_6, wo_6_sub, cy_111⟩, ⟨wo_6, wo_6_sub, cy_112⟩, ⟨wo_6, wo_6_sub, cy_113⟩, ⟨wo_6, wo_6_sub, cy_114⟩, ⟨wo_6, wo_6_sub, cy_115⟩, ⟨wo_6, wo_6_sub, cy_116⟩, ⟨wo_6, wo_6_sub, cy_117⟩, ⟨wo_6, wo_6_sub, cy_118⟩, ⟨wo_6, wo_6_sub, cy_119⟩, trivial⟩
theorem cm_F_4 : cm_F cm_pY 120 cm_cks4 := ⟨⟨wo_6, wo_6_sub, cy_120⟩, ⟨wo_6, wo_6_sub, cy_121⟩, ⟨wo_6, wo_6_sub, cy_122⟩, ⟨wo_6, wo_6_sub, cy_123⟩, ⟨wo_10, wo_10_sub, cy_124⟩, ⟨wo_4, wo_4_sub, cy_125⟩, ⟨wo_10, wo_10_sub, cy_126⟩, ⟨wo_10, wo_10_sub, cy_127⟩, ⟨wo_10, wo_10_sub, cy_128⟩, ⟨wo_10, wo_10_sub, cy_129⟩, ⟨wo_10, wo_10_sub, cy_130⟩, ⟨wo_10, wo_10_sub, cy_131⟩, ⟨wo_10, wo_10_sub, cy_132⟩, ⟨wo_10, wo_10_sub, cy_133⟩, ⟨wo_10, wo_10_sub, cy_134⟩, ⟨wo_10, wo_10_sub, cy_135⟩, ⟨wo_3, wo_3_sub, cy_136⟩, ⟨wo_11, wo_11_sub, cy_137⟩, ⟨wo_11, wo_11_sub, cy_138⟩, ⟨wo_11, wo_11_sub, cy_139⟩, ⟨wo_11, wo_11_sub, cy_140⟩, ⟨wo_11, wo_11_sub, cy_141⟩, ⟨wo_11, wo_11_sub, cy_142⟩, ⟨wo_11, wo_11_sub, cy_143⟩, ⟨wo_11, wo_11_sub, cy_144⟩, ⟨wo_11, wo_11_sub, cy_145⟩, ⟨wo_11, wo_11_sub, cy_146⟩, ⟨wo_11, wo_11_sub, cy_147⟩, ⟨wo_11, wo_11_sub, cy_148⟩, ⟨wo_11, wo_11_sub, cy_149⟩, trivial⟩
theorem cm_F_5 : cm_F cm_pY 150 cm_cks5 := ⟨⟨wo_11, wo_11_sub, cy_150⟩, ⟨wo_11, wo_11_sub, cy_151⟩, ⟨wo_11, wo_11_sub, cy_152⟩, ⟨wo_11, wo_11_sub, cy_153⟩, ⟨wo_11, wo_11_sub, cy_154⟩, ⟨wo_11, wo_11_sub, cy_155⟩, ⟨wo_11, wo_11_sub, cy_156⟩, ⟨wo_11, wo_11_sub, cy_157⟩, ⟨wo_11, wo_11_sub, cy_158⟩, ⟨wo_11, wo_11_sub, cy_159⟩, ⟨wo_11, wo_11_sub, cy_160⟩, ⟨wo_11, wo_11_sub, cy_161⟩, ⟨wo_11, wo_11_sub, cy_162⟩, ⟨wo_11, wo_11_sub, cy_163⟩, ⟨wo_11, wo_11_sub, cy_164⟩, ⟨wo_11, wo_11_sub, cy_165⟩, ⟨wo_11, wo_11_sub, cy_166⟩, ⟨wo_11, wo_11_sub, cy_167⟩, ⟨wo_11, wo_11_sub, cy_168⟩, ⟨wo_11, wo_11_sub, cy_169⟩, ⟨wo_11, wo_11_sub, cy_170⟩, ⟨wo_11, wo_11_sub, cy_171⟩, ⟨wo_11, wo_11_sub, cy_172⟩, ⟨wo_11, wo_11_sub, cy_173⟩, ⟨wo_11, wo_11_sub, cy_174⟩, ⟨wo_11, wo_11_sub, cy_175⟩, ⟨wo_11, wo_11_sub, cy_176⟩, ⟨wo_11, wo_11_sub, cy_177⟩, ⟨wo_11, wo_11_sub, cy_178⟩, ⟨wo_11, wo_11_sub, cy_179⟩, trivial⟩
theorem cm_F_6 : cm_F cm_pY 180 cm_cks6 := ⟨⟨wo_11, wo_11_sub, cy_180⟩, ⟨wo_11, wo_11_sub, cy_181⟩, ⟨wo_11, wo_11_sub, cy_182⟩, ⟨wo_11, wo_11_sub, cy_183⟩, ⟨wo_11, wo_11_sub, cy_184⟩, ⟨wo_11, wo_11_sub, cy_185⟩, ⟨wo_11, wo_11_sub, cy_186⟩, ⟨wo_11, wo_11_sub, cy_187⟩, ⟨wo_11, wo_11_sub, cy_188⟩, ⟨wo_11, wo_11_sub, cy_189⟩, ⟨wo_11, wo_11_sub, cy_190⟩, ⟨wo_11, wo_11_sub, cy_191⟩, ⟨wo_11, wo_11_sub, cy_192⟩, ⟨wo_12, wo_12_sub, cy_193⟩, ⟨wo_12, wo_12_sub, cy_194⟩, ⟨wo_12, wo_12_sub, cy_195⟩, ⟨wo_12, wo_12_sub, cy_196⟩, ⟨wo_12, wo_12_sub, cy_197⟩, ⟨wo_12, wo_12_sub, cy_198⟩, ⟨wo_12, wo_12_sub, cy_199⟩, ⟨wo_12, wo_12_sub, cy_200⟩, ⟨wo_12, wo_12_sub, cy_201⟩, ⟨wo_12, wo_12_sub, cy_202⟩, ⟨wo_12, wo_12_sub, cy_203⟩, ⟨wo_12, wo_12_sub, cy_204⟩, ⟨wo_12, wo_12_sub, cy_205⟩, ⟨wo_12, wo_12_sub, cy_206⟩, ⟨wo_12, wo_12_sub, cy_207⟩, ⟨wo_12, wo_12_sub, cy_208⟩, ⟨wo_12, wo_12_sub, cy_209⟩, trivial⟩
theorem cm_F_7 : cm_F cm_pY 210 cm_cks7 := ⟨⟨wo_12, wo_12_sub, cy_210⟩, ⟨wo_12, wo_12_sub, cy_211⟩, ⟨wo_12, wo_12_sub, cy_212⟩, ⟨wo_12, wo_12_sub, cy_213⟩, ⟨wo_12, wo_12_sub, cy_214⟩, ⟨wo_12, wo_12_sub, cy_215⟩, ⟨wo_12, wo_12_sub, cy_216⟩, ⟨wo_12, wo_12_sub, cy_217⟩, ⟨wo_12, wo_12_sub, cy_218⟩, ⟨wo_12, wo_12_sub, cy_219⟩, ⟨wo_12, wo_12_sub, cy_220⟩, ⟨wo_12, wo_12_sub, cy_221⟩, ⟨wo_12, wo_12_sub, cy_222⟩, ⟨wo_12, wo_12_sub, cy_223⟩, ⟨wo_12, wo_12_sub, cy_224⟩, ⟨wo_12, wo_12_sub, cy_225⟩, ⟨wo_12, wo_12_sub, cy_226⟩, ⟨wo_12, wo_12_sub, cy_227⟩, ⟨wo_12, wo_12_sub, cy_228⟩, ⟨wo_12, wo_12_sub, cy_229⟩, ⟨wo_12, wo_12_sub, cy_230⟩, ⟨wo_12, wo_12_sub, cy_231⟩, ⟨wo_12, wo_12_sub, cy_232⟩, ⟨wo_12, wo_12_sub, cy_233⟩, ⟨wo_12, wo_12_sub, cy_234⟩, ⟨wo_12, wo_12_sub, cy_235⟩, ⟨wo_12, wo_12_sub, cy_236⟩, ⟨wo_12, wo_12_sub, cy_237⟩, ⟨wo_12, wo_12_sub, cy_238⟩, ⟨wo_12, wo_12_sub, cy_239⟩, trivial⟩
theorem cm_F_8 : cm_F cm_pY 240 cm_cks8 := ⟨⟨wo_12, wo_12_sub, cy_240⟩, ⟨wo_12, wo_12_sub, cy_241⟩, ⟨wo_12, wo_12_sub, cy_242⟩, ⟨wo_12, wo_12_sub, cy_243⟩, ⟨wo_12, wo_12_sub, cy_244⟩, ⟨wo_12, wo_12_sub, cy_245⟩, ⟨wo_12, wo_12_sub, cy_246⟩, ⟨wo_12, wo_12_sub, cy_247⟩, ⟨wo_12, wo_12_sub, cy_248⟩, ⟨wo_12, wo_12_sub, cy_249⟩, ⟨wo_12, wo_12_sub, cy_250⟩, ⟨wo_12, wo_12_sub, cy_251⟩, ⟨wo_12, wo_12_sub, cy_252⟩, ⟨wo_12, wo_12_sub, cy_253⟩, ⟨wo_12, wo_12_sub, cy_254⟩, ⟨wo_12, wo_12_sub, cy_255⟩, ⟨wo_12, wo_12_sub, cy_256⟩, ⟨wo_12, wo_12_sub, cy_257⟩, ⟨wo_12, wo_12_sub, cy_258⟩, ⟨wo_12, wo_12_sub, cy_259⟩, ⟨wo_12, wo_12_sub, cy_260⟩, ⟨wo_12, wo_12_sub, cy_261⟩, ⟨wo_12, wo_12_sub, cy_262⟩, ⟨wo_12, wo_12_sub, cy_263⟩, ⟨wo_12, wo_12_sub, cy_264⟩, ⟨wo_12, wo_12_sub, cy_265⟩, ⟨wo_12, wo_12_sub, cy_266⟩, ⟨wo_12, wo_12_sub, cy_267⟩, ⟨wo_12, wo_12_sub, cy_268⟩, ⟨wo_12, wo_12_sub, cy_269⟩, trivial⟩
theorem cm_F_9 : cm_F cm_pY 270 cm_cks9 := ⟨⟨wo_12, wo_12_sub, cy_270⟩, ⟨wo_12, wo_12_sub, cy_271⟩, ⟨wo_12, wo_12_sub, cy_272⟩, ⟨wo_12, wo_12_sub, cy_273⟩, ⟨wo_12, wo_12_sub, cy_274⟩, ⟨wo_12, wo_12_sub, cy_275⟩, ⟨wo_12, wo_12_sub, cy_276⟩, ⟨wo_12, wo_12_sub, cy_277⟩, ⟨wo_12, wo_12_sub, cy_278⟩, ⟨wo_12, wo_12_sub, cy_279⟩, ⟨wo_12, wo_12_sub, cy_280⟩, ⟨wo_12, wo_12_sub, cy_281⟩, ⟨wo_12, wo_12_sub, cy_282⟩, ⟨wo_12, wo_12_sub, cy_283⟩, ⟨wo_12, wo_12_sub, cy_284⟩, ⟨wo_12, wo_12_sub, cy_285⟩, ⟨wo_12, wo_12_sub, cy_286⟩, ⟨wo_12, wo_12_sub, cy_287⟩, ⟨wo_12, wo_12_sub, cy_288⟩, ⟨wo_12, wo_12_sub, cy_289⟩, ⟨wo_12, wo_12_sub, cy_290⟩, ⟨wo_12, wo_12_sub, cy_291⟩, ⟨wo_12, wo_12_sub, cy_292⟩, ⟨wo_12, wo_12_sub, cy_293⟩, ⟨wo_12, wo_12_sub, cy_294⟩, ⟨wo_12, wo_12_sub, cy_295⟩, ⟨wo_12, wo_12_sub, cy_296⟩, ⟨wo_12, wo_12_sub, cy_297⟩, ⟨wo_12, wo_12_sub, cy_298⟩, ⟨wo_12, wo_12_sub, cy_299⟩, trivial⟩
theorem cm_F_10 : cm_F cm_pY 300 cm_cks10 := ⟨⟨wo_13, wo_13_sub, cy_300⟩, trivial⟩
theorem cm_F_all : cm_F cm_pY 0 cm_cks := cm_F_app _ _ _ cm_F_0 (cm_F_app _ _ _ cm_F_1 (cm_F_app _ _ _ cm_F_2 (cm_F_app _ _ _ cm_F_3 (cm_F_app _ _ _ cm_F_4 (cm_F_app _ _ _ cm_F_5 (cm_F_app _ _ _ cm_F_6 (cm_F_app _ _ _ cm_F_7 (cm_F_app _ _ _ cm_F_8 (cm_F_app _ _ _ cm_F_9 (cm_F_10))))))))))
def cm_cw (y : Nat) : Jvm.Cond := .code (cm_mf y).1 (cm_mf y).2.1 (cm_mf y).2.2.1 (cm_mf y).2.2.2.1
set_option maxRecDepth 20000 in
theorem cm_cw_0 : ((List.range 30).map (fun i => cm_cw (0 + i))) = [0, 1, 2, 3, 4, 5, 6, 7, 8, 9, 10, 11, 12, 13, 14, 15, 16, 17, 18, 19, 20, 21, 22, 23, 24, 25, 26, 27, 28, 29].filterMap (fun i => wd_all[i]?) := rfl
set_option maxRecDepth 20000 in
theorem cm_cw_1 : ((List.range 30).map (fun i => cm_cw (30 + i))) = [30, 31, 32, 9, 33, 34, 35, 36, 37, 38, 39, 40, 41, 42, 43, 44, 45, 46, 47, 48, 49, 50, 51, 52, 53, 54, 55, 56, 57, 58].filterMap (fun i => wd_all[i]?) := rfl
set_option maxRecDepth 20000 in
theorem cm_cw_2 : ((List.range 30).map (fun i => cm_cw (60 + i))) = [59, 60, 15, 61, 62, 63, 64, 65, 66, 67, 68, 69, 70, 71, 72, 73, 74, 75, 76, 77, 78, 79, 80, 81, 82, 83, 84, 85, 86, 87].filterMap (fun i => wd_all[i]?) := rfl
set_option maxRecDepth 20000 in
theorem cm_cw_3 : ((List.range 30).map (fun i => cm_cw (90 + i))) = [88, 89, 90, 91, 92, 93, 94, 95, 69, 70, 96, 97, 98, 99, 100, 101, 102, 103, 104, 105, 106, 107, 108, 109, 110, 111, 112, 113, 114, 115].filterMap (fun i => wd_all[i]?) := rfl
set_option maxRecDepth 20000 in
theorem cm_cw_4 : ((List.range 30).map (fun i => cm_cw (120 + i))) = [116, 117, 118, 119, 120, 15, 121, 122, 123, 124, 125, 126, 127, 128, 129, 130, 131, 132, 133, 134, 135, 136, 137, 138, 139, 140, 141, 142, 143, 144].filterMap (fun i => wd_all[i]?) := rfl
set_option maxRecDepth 20000 in
theorem cm_cw_5 : ((List.range 30).map (fun i => cm_cw (150 + i))) = [145, 146, 147, 148, 149, 150, 151, 152, 153, 154, 155, 156, 157, 158, 159, 160, 161, 162, 163, 164, 165, 166, 167, 168, 169, 170, 171, 172, 173, 174].filterMap (fun i => wd_all[i]?) := rfl
set_option maxRecDepth 20000 in
theorem cm_cw_6 : ((List.range 30).map (fun i => cm_cw (180 + i))) = [175, 176, 177, 178, 179, 180, 181, 182, 183, 184, 185, 186, 187, 188, 189, 190, 191, 192, 193, 194, 195, 196, 197, 198, 199, 200, 201, 202, 203, 204].filterMap (fun i => wd_all[i]?) := rfl
set_option maxRecDepth 20000 in
theorem cm_cw_7 : ((List.range 30).map (fun i => cm_cw (210 + i))) = [205, 206, 207, 208, 209, 210, 211, 212, 213, 214, 215, 216, 217, 218, 219, 220, 221, 222, 223, 224, 225, 226, 227, 228, 229, 230, 231, 232, 233, 234].filterMap (fun i => wd_all[i]?) := rfl
set_option maxRecDepth 20000 in
theorem cm_cw_8 : ((List.range 30).map (fun i => cm_cw (240 + i))) = [235, 236, 237, 238, 239, 240, 241, 242, 243, 244, 245, 246, 247, 248, 249, 250, 251, 252, 253, 254, 255, 256, 257, 258, 259, 260, 261, 262, 263, 264].filterMap (fun i => wd_all[i]?) := rfl
set_option maxRecDepth 20000 in
theorem cm_cw_9 : ((List.range 30).map (fun i => cm_cw (270 + i))) = [265, 266, 267, 268, 269, 270, 271, 272, 273, 274, 275, 276, 277, 278, 279, 280, 281, 282, 283, 284, 285, 286, 287, 288, 289, 290, 291, 292, 293, 294].filterMap (fun i => wd_all[i]?) := rfl
theorem cm_cw_of {N k : Nat} {ps : List Nat} (h : ((List.range N).map (fun i => cm_cw (k + i))) = ps.filterMap (fun i => wd_all[i]?)) {y : Nat} (h1 : k ≤ y) (h2 : y < k + N) : cm_cw y ∈ wd_all := by
  have m : cm_cw y ∈ (List.range N).map (fun i => cm_cw (k + i)) := List.mem_map.mpr ⟨y - k, List.mem_range.mpr (by omega), by rw [show k + (y - k) = y by omega]⟩
  rw [h] at m
  obtain ⟨i, -, hi⟩ := List.mem_filterMap.mp m
  exact List.mem_of_getElem? hi
theorem cm_cw_in (y : Nat) (h : y < 300) : cm_cw y ∈ wd_all := by
  rcases Nat.lt_or_ge y 30 with q0 | q0
  · exact cm_cw_of cm_cw_0 (by omega) (by omega)
  rcases Nat.lt_or_ge y 60 with q1 | q1
  · exact cm_cw_of cm_cw_1 (by omega) (by omega)
  rcases Nat.lt_or_ge y 90 with q2 | q2
  · exact cm_cw_of cm_cw_2 (by omega) (by omega)
  rcases Nat.lt_or_ge y 120 with q3 | q3
  · exact cm_cw_of cm_cw_3 (by omega) (by omega)
  rcases Nat.lt_or_ge y 150 with q4 | q4
  · exact cm_cw_of cm_cw_4 (by omega) (by omega)
  rcases Nat.lt_or_ge y 180 with q5 | q5
  · exact cm_cw_of cm_cw_5 (by omega) (by omega)
  rcases Nat.lt_or_ge y 210 with q6 | q6
  · exact cm_cw_of cm_cw_6 (by omega) (by omega)
  rcases Nat.lt_or_ge y 240 with q7 | q7
  · exact cm_cw_of cm_cw_7 (by omega) (by omega)
  rcases Nat.lt_or_ge y 270 with q8 | q8
  · exact cm_cw_of cm_cw_8 (by omega) (by omega)
  exact cm_cw_of cm_cw_9 (by omega) (by omega)
theorem cm_mo_b : (List.range 300).all (fun y => decide (Jvm.Cond.initialized (cm_mf y).1.cls ∈ wi_all) && (decide ((cm_mf y).1.cls ≠ "java/lang/invoke/MethodHandle") && (decide ((cm_mf y).1.cls ≠ "java/lang/invoke/VarHandle") && (plainName (cm_mf y).1.cls && decide ((cm_mf y).2.2.2.2.1 = (cm_mf y).1.cls))))) = true := by decide +kernel
theorem cm_mo_all (y : Nat) (h : y < 300) : cm_mo cm_g (cm_Tg ++ cm_Tn) y := by
  have hb := List.all_eq_true.mp cm_mo_b y (List.mem_range.mpr h)
  simp only [Bool.and_eq_true, decide_eq_true_eq] at hb
  obtain ⟨h1, h2, h3, h4, h5⟩ := hb
  exact ⟨List.mem_append_left _ (List.mem_append_right _ (List.mem_append_right _ (List.mem_append_left _ (cm_cw_in y h)))), List.mem_append_left _ (List.mem_append_left _ h1), ⟨h2, h3⟩, h4, h5⟩
theorem cm_all_I : cm_Iok cm_g (cm_Tg ++ cm_Tn) ∧ cm_Kok cm_g (cm_Tg ++ cm_Tn) := by
  have key : ∀ (y pc : Nat) (d : cm_D), cm_g.1 y pc = some d → ∃ T : List Jvm.Cond, (∀ w ∈ T, w ∈ cm_Tg ++ cm_Tn) ∧ (decode (cm_g.2.2.1 y).2.1 pc = .ok (d.1, d.2.1)) ∧ (cm_sw d.1 = true ∨ d.2.1 = cm_ln d.1) ∧ cm_bw cm_g T y d = true ∧ cm_bc cm_g T y d.1 d.2.2.1 = true ∧ ∀ y', cm_to d.1 d.2.2.1 = some y' → y' < 300 := by
    intro y pc d h
    obtain ⟨ck, h1, h2⟩ := Option.bind_eq_some_iff.mp (show (cm_cks[y]?).bind (fun ck => cm_lk ck pc) = some d from h)
    obtain ⟨T, hT, hb⟩ := cm_F_at _ 0 y ck cm_F_all h1
    rw [Nat.zero_add] at hb
    obtain ⟨ch, h3, h4⟩ := cm_lk_mem h2
    have hr := List.all_eq_true.mp (List.all_eq_true.mp hb ch h3) (pc, d) h4
    simp only [Bool.and_eq_true, decide_eq_true_eq, Bool.or_eq_true] at hr
    obtain ⟨g1, g2, g3, g4, g5⟩ := hr
    refine ⟨T, hT, g1, g2, g3, g4, fun y' hy => ?_⟩
    rw [hy] at g5
    exact of_decide_eq_true g5
  refine ⟨fun y pc d h => ?_, fun y pc d h => ?_⟩
  · obtain ⟨T, hT, g1, g2, g3, g4, g5⟩ := key y pc d h
    refine ⟨g1, fun hs => ?_, cm_bw_ok hT (fun w hw => List.mem_append_right _ hw) g3⟩
    rcases g2 with g2 | g2
    · rw [hs] at g2; cases g2
    · exact g2
  · obtain ⟨T, hT, g1, g2, g3, g4, g5⟩ := key y pc d h
    exact cm_bc_ok hT (fun w hw => List.mem_append_right _ hw) (fun y' hy => cm_mo_all y' (g5 y' hy)) g4
theorem wl_sub {T : List Jvm.Cond} (h : ∀ w ∈ T, w ∈ wl_all) : ∀ w ∈ T, w ∈ cm_Tg ++ cm_Tn := fun w hw => List.mem_append_left _ (List.mem_append_right _ (List.mem_append_right _ (List.mem_append_right _ (h w hw))))
theorem cm_all_C : cm_Cok cm_g (cm_Tg ++ cm_Tn) := by
  intro ci r h
  have h : vwCl[ci]? = some r := h
  match ci, h with
  | 0, h => obtain rfl := Option.some.inj h; exact ⟨wl_sub fun w h => List.mem_append_left _ h, tyX0_ok, nmX0, by decide +kernel⟩
  | 1, h => obtain rfl := Option.some.inj h; exact ⟨wl_sub fun w h => List.mem_append_right _ (List.mem_append_left _ h), tyX1_ok, nmX1, by decide +kernel⟩
  | 2, h => obtain rfl := Option.some.inj h; exact ⟨wl_sub fun w h => List.mem_append_right _ (List.mem_append_right _ (List.mem_append_left _ h)), tyX2_ok, nmX2, by decide +kernel⟩
  | 3, h => obtain rfl := Option.some.inj h; exact ⟨wl_sub fun w h => List.mem_append_right _ (List.mem_append_right _ (List.mem_append_right _ (List.mem_append_left _ h))), tyX3_ok, nmX3, by decide +kernel⟩
  | 4, h => obtain rfl := Option.some.inj h; exact ⟨wl_sub fun w h => List.mem_append_right _ (List.mem_append_right _ (List.mem_append_right _ (List.mem_append_right _ (List.mem_append_left _ h)))), tyX4_ok, nmX4, by decide +kernel⟩
  | 5, h => obtain rfl := Option.some.inj h; exact ⟨wl_sub fun w h => List.mem_append_right _ (List.mem_append_right _ (List.mem_append_right _ (List.mem_append_right _ (List.mem_append_right _ (List.mem_append_left _ h))))), tyX5_ok, nmX5, by decide +kernel⟩
  | 6, h => obtain rfl := Option.some.inj h; exact ⟨wl_sub fun w h => List.mem_append_right _ (List.mem_append_right _ (List.mem_append_right _ (List.mem_append_right _ (List.mem_append_right _ (List.mem_append_right _ (List.mem_append_left _ h)))))), tyX6_ok, nmX6, by decide +kernel⟩
  | 7, h => obtain rfl := Option.some.inj h; exact ⟨wl_sub fun w h => List.mem_append_right _ (List.mem_append_right _ (List.mem_append_right _ (List.mem_append_right _ (List.mem_append_right _ (List.mem_append_right _ (List.mem_append_right _ (List.mem_append_left _ h))))))), tyX7_ok, nmX7, by decide +kernel⟩
  | 8, h => obtain rfl := Option.some.inj h; exact ⟨wl_sub fun w h => List.mem_append_right _ (List.mem_append_right _ (List.mem_append_right _ (List.mem_append_right _ (List.mem_append_right _ (List.mem_append_right _ (List.mem_append_right _ (List.mem_append_right _ (List.mem_append_left _ h)))))))), tyX8_ok, nmX8, by decide +kernel⟩
  | 9, h => obtain rfl := Option.some.inj h; exact ⟨wl_sub fun w h => List.mem_append_right _ (List.mem_append_right _ (List.mem_append_right _ (List.mem_append_right _ (List.mem_append_right _ (List.mem_append_right _ (List.mem_append_right _ (List.mem_append_right _ (List.mem_append_right _ (List.mem_append_left _ h))))))))), tyX9_ok, nmX9, by decide +kernel⟩
  | 10, h => obtain rfl := Option.some.inj h; exact ⟨wl_sub fun w h => List.mem_append_right _ (List.mem_append_right _ (List.mem_append_right _ (List.mem_append_right _ (List.mem_append_right _ (List.mem_append_right _ (List.mem_append_right _ (List.mem_append_right _ (List.mem_append_right _ (List.mem_append_right _ (List.mem_append_left _ h)))))))))), tyX10_ok, nmX10, by decide +kernel⟩
  | 11, h => obtain rfl := Option.some.inj h; exact ⟨wl_sub fun w h => List.mem_append_right _ (List.mem_append_right _ (List.mem_append_right _ (List.mem_append_right _ (List.mem_append_right _ (List.mem_append_right _ (List.mem_append_right _ (List.mem_append_right _ (List.mem_append_right _ (List.mem_append_right _ (List.mem_append_right _ (h))))))))))), tyX11_ok, nmX11, by decide +kernel⟩
  | n + 12, h => cases h
theorem cm_all : cm_All cm_g cm_Tg cm_Tn := ⟨cm_all_C, cm_all_I.1, cm_all_I.2, cm_Tg_good, cm_Tn_sx⟩
